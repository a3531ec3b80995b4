/-! Methods: X1_start, X1_copyFrom, X1_startCheckpoint, X1_putBarriers, X9_numberOf, X1_sendRecord, X1_sendersTo, X1_cut, X1_keepFirst, X1_letBarrierArrive, X1_letBarriersOvertake, X7_sinkOf, X1_channelForResult, X1_canBeTaken, X1_senderInTurn, X7_valueOf, X1_addUp, X1_take, X1_completeIfAllArrived -/
section ZM
variable {p : Program} {l : Launch} {e : Env} {R : Room} {s : State} {m : MethodId} {args : Array Value} {below : List Frame} {meth : Method} {c : Code} {cells slots : Nat} {Q : State → Prop} {D : va_G} {Ca : Nat → ClassId} {B : Nat} {En : State → Prop} {N : Nat}
theorem dX1_start_0 : decode cX1_start 0 = .ok (.aload_n 0, 1) := by decide +kernel
theorem dX1_start_1 : decode cX1_start 1 = .ok (.aload_n 1, 1) := by decide +kernel
theorem dX1_start_2 : decode cX1_start 2 = .ok (.putfield 54, 3) := by decide +kernel
theorem dX1_start_5 : decode cX1_start 5 = .ok (.aload_n 0, 1) := by decide +kernel
theorem dX1_start_6 : decode cX1_start 6 = .ok (.aload_n 0, 1) := by decide +kernel
theorem dX1_start_7 : decode cX1_start 7 = .ok (.getfield 54, 3) := by decide +kernel
theorem dX1_start_10 : decode cX1_start 10 = .ok (.getstatic 58, 3) := by decide +kernel
theorem dX1_start_13 : decode cX1_start 13 = .ok (.invokevirtual 64, 3) := by decide +kernel
theorem dX1_start_16 : decode cX1_start 16 = .ok (.putfield 70, 3) := by decide +kernel
theorem dX1_start_19 : decode cX1_start 19 = .ok (.aload_n 0, 1) := by decide +kernel
theorem dX1_start_20 : decode cX1_start 20 = .ok (.aload_n 0, 1) := by decide +kernel
theorem dX1_start_21 : decode cX1_start 21 = .ok (.getfield 54, 3) := by decide +kernel
theorem dX1_start_24 : decode cX1_start 24 = .ok (.getstatic 74, 3) := by decide +kernel
theorem dX1_start_27 : decode cX1_start 27 = .ok (.invokevirtual 64, 3) := by decide +kernel
theorem dX1_start_30 : decode cX1_start 30 = .ok (.putfield 77, 3) := by decide +kernel
theorem dX1_start_33 : decode cX1_start 33 = .ok (.aload_n 0, 1) := by decide +kernel
theorem dX1_start_34 : decode cX1_start 34 = .ok (.aload_n 0, 1) := by decide +kernel
theorem dX1_start_35 : decode cX1_start 35 = .ok (.getfield 54, 3) := by decide +kernel
theorem dX1_start_38 : decode cX1_start 38 = .ok (.getstatic 80, 3) := by decide +kernel
theorem dX1_start_41 : decode cX1_start 41 = .ok (.invokevirtual 64, 3) := by decide +kernel
theorem dX1_start_44 : decode cX1_start 44 = .ok (.putfield 83, 3) := by decide +kernel
theorem dX1_start_47 : decode cX1_start 47 = .ok (.aload_n 0, 1) := by decide +kernel
theorem dX1_start_48 : decode cX1_start 48 = .ok (.aload_n 0, 1) := by decide +kernel
theorem dX1_start_49 : decode cX1_start 49 = .ok (.getfield 54, 3) := by decide +kernel
theorem dX1_start_52 : decode cX1_start 52 = .ok (.getstatic 86, 3) := by decide +kernel
theorem dX1_start_55 : decode cX1_start 55 = .ok (.invokevirtual 64, 3) := by decide +kernel
theorem dX1_start_58 : decode cX1_start 58 = .ok (.iconst 1, 1) := by decide +kernel
theorem dX1_start_59 : decode cX1_start 59 = .ok (.if_icmp .ne 7, 3) := by decide +kernel
theorem dX1_start_62 : decode cX1_start 62 = .ok (.iconst 1, 1) := by decide +kernel
theorem dX1_start_63 : decode cX1_start 63 = .ok (.goto 4, 3) := by decide +kernel
theorem dX1_start_66 : decode cX1_start 66 = .ok (.iconst 0, 1) := by decide +kernel
theorem dX1_start_67 : decode cX1_start 67 = .ok (.putfield 89, 3) := by decide +kernel
theorem dX1_start_70 : decode cX1_start 70 = .ok (.aload_n 0, 1) := by decide +kernel
theorem dX1_start_71 : decode cX1_start 71 = .ok (.iconst 0, 1) := by decide +kernel
theorem dX1_start_72 : decode cX1_start 72 = .ok (.putfield 93, 3) := by decide +kernel
theorem dX1_start_75 : decode cX1_start 75 = .ok (.aload_n 0, 1) := by decide +kernel
theorem dX1_start_76 : decode cX1_start 76 = .ok (.iconst 0, 1) := by decide +kernel
theorem dX1_start_77 : decode cX1_start 77 = .ok (.putfield 96, 3) := by decide +kernel
theorem dX1_start_80 : decode cX1_start 80 = .ok (.aload_n 0, 1) := by decide +kernel
theorem dX1_start_81 : decode cX1_start 81 = .ok (.iconst 0, 1) := by decide +kernel
theorem dX1_start_82 : decode cX1_start 82 = .ok (.putfield 99, 3) := by decide +kernel
theorem dX1_start_85 : decode cX1_start 85 = .ok (.aload_n 0, 1) := by decide +kernel
theorem dX1_start_86 : decode cX1_start 86 = .ok (.iconst 0, 1) := by decide +kernel
theorem dX1_start_87 : decode cX1_start 87 = .ok (.putfield 102, 3) := by decide +kernel
theorem dX1_start_90 : decode cX1_start 90 = .ok (.aload_n 0, 1) := by decide +kernel
theorem dX1_start_91 : decode cX1_start 91 = .ok (.getfield 54, 3) := by decide +kernel
theorem dX1_start_94 : decode cX1_start 94 = .ok (.getfield 105, 3) := by decide +kernel
theorem dX1_start_97 : decode cX1_start 97 = .ok (.aload_n 0, 1) := by decide +kernel
theorem dX1_start_98 : decode cX1_start 98 = .ok (.getfield 9, 3) := by decide +kernel
theorem dX1_start_101 : decode cX1_start 101 = .ok (.invokestatic 106, 3) := by decide +kernel
theorem dX1_start_104 : decode cX1_start 104 = .ok (.aload_n 0, 1) := by decide +kernel
theorem dX1_start_105 : decode cX1_start 105 = .ok (.getfield 41, 3) := by decide +kernel
theorem dX1_start_108 : decode cX1_start 108 = .ok (.iconst 0, 1) := by decide +kernel
theorem dX1_start_109 : decode cX1_start 109 = .ok (.putfield 110, 3) := by decide +kernel
theorem dX1_start_112 : decode cX1_start 112 = .ok (.aload_n 0, 1) := by decide +kernel
theorem dX1_start_113 : decode cX1_start 113 = .ok (.getfield 30, 3) := by decide +kernel
theorem dX1_start_116 : decode cX1_start 116 = .ok (.invokevirtual 113, 3) := by decide +kernel
theorem dX1_start_119 : decode cX1_start 119 = .ok (.aload_n 0, 1) := by decide +kernel
theorem dX1_start_120 : decode cX1_start 120 = .ok (.invokevirtual 116, 3) := by decide +kernel
theorem dX1_start_123 : decode cX1_start 123 = .ok (.aload_n 0, 1) := by decide +kernel
theorem dX1_start_124 : decode cX1_start 124 = .ok (.iconst 0, 1) := by decide +kernel
theorem dX1_start_125 : decode cX1_start 125 = .ok (.putfield 119, 3) := by decide +kernel
theorem dX1_start_128 : decode cX1_start 128 = .ok (.return_, 1) := by decide +kernel
theorem hyX1_start : yX1_start.cls ≠ "java/lang/invoke/MethodHandle" ∧ yX1_start.cls ≠ "java/lang/invoke/VarHandle" ∧ (parseMethodDescriptor yX1_start.desc).map (fun d => d.parameters.length) = some 1 := ⟨by decide +kernel, by decide +kernel, by decide +kernel⟩
def jX1_start_67 (σ : zS) (x0 : Nat) (y0 : Int32) (y1 : Nat) : Option zS :=
  (zpZ 1 3 σ y1 y0).bind fun σ13 => (zpI 1 4 σ13 x0 0).bind fun σ14 => (zpI 1 5 σ14 x0 0).bind fun σ15 => (zpI 1 6 σ15 x0 0).bind fun σ16 => (zpI 1 8 σ16 x0 0).bind fun σ17 => (zgR 1 17 σ17 x0).bind fun v18 => (zgR 7 4 σ17 v18).bind fun v19 => (zgR 1 9 σ17 x0).bind fun v20 => (fX9_copyRow σ17 v19 v20).bind fun c21 => (zgR 1 16 c21 x0).bind fun v22 => (zpI 0 0 c21 v22 0).bind fun σ23 => (zgR 1 14 σ23 x0).bind fun v24 => (zck 3 σ23 v24 (fX3_clearAll σ23 v24 )).bind fun c25 => (zck 1 c25 x0 (fX1_recover c25 x0 )).bind fun c26 => (zpI 1 7 c26 x0 0).bind fun σ27 => some σ27
set_option maxRecDepth 100000 in
set_option maxHeartbeats 4000000 in
theorem wjX1_start_67 (C : zC p s m args meth c cX1_start RX1 2 D Ca B En) (hRm : zRm R 4 129 cells slots) (ev : zEv) (hZ : ∀ U : State, En U → zEnv ev B U) (σ : zS) (x0 : Nat) (y0 : Int32) (y1 : Nat) (τ : zS) (hf : jX1_start_67 σ x0 y0 y1 = some τ) (hq : ∀ (pc : Nat) (lv : List (Nat × Value)), decode cX1_start pc = .ok (.return_, 1) → zW p l e R s m args below meth c cells slots Q D Ca B 2 τ N pc lv []) : zW p l e R s m args below meth c cells slots Q D Ca B 2 σ N 67 [(0, .ref x0)] [.int y0, .ref y1] := by
  unfold jX1_start_67 at hf
  obtain ⟨σ13, hσ13, hf⟩ := zbind hf
  refine gp_RX1_89 C hσ13 dX1_start_67 ?_
  refine z_aload_n C dX1_start_70 rfl 0 rfl ?_
  refine z_iconst C 0 dX1_start_71 (by decide) ?_
  obtain ⟨σ14, hσ14, hf⟩ := zbind hf
  refine gp_RX1_93 C hσ14 dX1_start_72 ?_
  refine z_aload_n C dX1_start_75 rfl 0 rfl ?_
  refine z_iconst C 0 dX1_start_76 (by decide) ?_
  obtain ⟨σ15, hσ15, hf⟩ := zbind hf
  refine gp_RX1_96 C hσ15 dX1_start_77 ?_
  refine z_aload_n C dX1_start_80 rfl 0 rfl ?_
  refine z_iconst C 0 dX1_start_81 (by decide) ?_
  obtain ⟨σ16, hσ16, hf⟩ := zbind hf
  refine gp_RX1_99 C hσ16 dX1_start_82 ?_
  refine z_aload_n C dX1_start_85 rfl 0 rfl ?_
  refine z_iconst C 0 dX1_start_86 (by decide) ?_
  obtain ⟨σ17, hσ17, hf⟩ := zbind hf
  refine gp_RX1_102 C hσ17 dX1_start_87 ?_
  refine z_aload_n C dX1_start_90 rfl 0 rfl ?_
  obtain ⟨v18, hv18, hf⟩ := zbind hf
  refine gf_RX1_54 C hv18 dX1_start_91 ?_
  obtain ⟨v19, hv19, hf⟩ := zbind hf
  refine gf_RX1_105 C hv19 dX1_start_94 ?_
  refine z_aload_n C dX1_start_97 rfl 0 rfl ?_
  obtain ⟨v20, hv20, hf⟩ := zbind hf
  refine gf_RX1_9 C hv20 dX1_start_98 ?_
  obtain ⟨c21, hc21, hf⟩ := zbind hf
  refine z_callSNv (host := "BarrierFlow") (As := [.ref v19, .ref v20]) (F0 := 4) (L0 := 129) C (mX9_copyRow l D Ca B En C.2.2.2.2.2.2.2.1 σ17 N v19 v20 _ hc21) hRm kw_299 kw_1 (by decide) kw_298 hyX9_copyRow (Nat.le_of_ble_eq_true rfl) (Nat.le_of_ble_eq_true rfl) rfl rfl (Nat.le_of_ble_eq_true rfl) dX1_start_101 ?_
  refine z_aload_n C dX1_start_104 rfl 0 rfl ?_
  obtain ⟨v22, hv22, hf⟩ := zbind hf
  refine gf_RX1_41 C hv22 dX1_start_105 ?_
  refine z_iconst C 0 dX1_start_108 (by decide) ?_
  obtain ⟨σ23, hσ23, hf⟩ := zbind hf
  refine gp_RX1_110 C hσ23 dX1_start_109 ?_
  refine z_aload_n C dX1_start_112 rfl 0 rfl ?_
  obtain ⟨v24, hv24, hf⟩ := zbind hf
  refine gf_RX1_30 C hv24 dX1_start_113 ?_
  obtain ⟨c25, hc25, hf⟩ := zbind hf
  obtain ⟨kc25, hc25⟩ := zck_ok hc25
  refine z_callVv (As := []) (F0 := 4) (L0 := 129) C (mX3_clearAll l D Ca B En C.2.2.2.2.2.2.2.1 σ23 N v24  _ hc25) hRm kc25 rfl kw_204 kw_9 kw_306 kw_202 kw_203 hyX3_clearAll (Nat.le_of_ble_eq_true rfl) (Nat.le_of_ble_eq_true rfl) rfl rfl (Nat.le_of_ble_eq_true rfl) dX1_start_116 ?_
  refine z_aload_n C dX1_start_119 rfl 0 rfl ?_
  obtain ⟨c26, hc26, hf⟩ := zbind hf
  obtain ⟨kc26, hc26⟩ := zck_ok hc26
  refine z_callVv (As := []) (F0 := 4) (L0 := 129) C (mX1_recover l D Ca B En C.2.2.2.2.2.2.2.1 c25 N x0  _ hc26) hRm kc26 rfl kw_310 kw_8 kw_307 kw_308 kw_309 hyX1_recover (Nat.le_of_ble_eq_true rfl) (Nat.le_of_ble_eq_true rfl) rfl rfl (Nat.le_of_ble_eq_true rfl) dX1_start_120 ?_
  refine z_aload_n C dX1_start_123 rfl 0 rfl ?_
  refine z_iconst C 0 dX1_start_124 (by decide) ?_
  obtain ⟨σ27, hσ27, hf⟩ := zbind hf
  refine gp_RX1_119 C hσ27 dX1_start_125 ?_
  cases hf
  exact hq _ _ dX1_start_128

def fX1_start (σ : zS) (x0 : Nat) (x1 : Nat) : Option zS :=
  (zpR 1 17 σ x0 (some x1)).bind fun σ1 => (zgR 1 17 σ1 x0).bind fun v2 => (zck 7 σ1 v2 (fX7_chosen σ1 v2 4)).bind fun c3 => (zpI 1 0 c3.1 x0 c3.2).bind fun σ4 => (zgR 1 17 σ4 x0).bind fun v5 => (zck 7 σ4 v5 (fX7_chosen σ4 v5 6)).bind fun c6 => (zpI 1 1 c6.1 x0 c6.2).bind fun σ7 => (zgR 1 17 σ7 x0).bind fun v8 => (zck 7 σ7 v8 (fX7_chosen σ7 v8 7)).bind fun c9 => (zpI 1 2 c9.1 x0 c9.2).bind fun σ10 => (zgR 1 17 σ10 x0).bind fun v11 => (zck 7 σ10 v11 (fX7_chosen σ10 v11 8)).bind fun c12 => (if c12.2 = 1 then jX1_start_67 c12.1 x0 1 x0 else jX1_start_67 c12.1 x0 0 x0)
set_option maxRecDepth 100000 in
set_option maxHeartbeats 4000000 in
theorem wfX1_start (C : zC p s m args meth c cX1_start RX1 2 D Ca B En) (hRm : zRm R 4 129 cells slots) (ev : zEv) (hZ : ∀ U : State, En U → zEnv ev B U) (σ : zS) (x0 : Nat) (x1 : Nat) (τ : zS) (hf : fX1_start σ x0 x1 = some τ) (hq : ∀ (pc : Nat) (lv : List (Nat × Value)), decode cX1_start pc = .ok (.return_, 1) → zW p l e R s m args below meth c cells slots Q D Ca B 2 τ N pc lv []) : zW p l e R s m args below meth c cells slots Q D Ca B 2 σ N 0 [(0, .ref x0), (1, .ref x1)] [] := by
  unfold fX1_start at hf
  refine z_aload_n C dX1_start_0 rfl 0 rfl ?_
  refine z_aload_n C dX1_start_1 rfl 1 rfl ?_
  obtain ⟨σ1, hσ1, hf⟩ := zbind hf
  refine gp_RX1_54 C hσ1 dX1_start_2 ?_
  refine z_aload_n C dX1_start_5 rfl 0 rfl ?_
  refine z_aload_n C dX1_start_6 rfl 0 rfl ?_
  obtain ⟨v2, hv2, hf⟩ := zbind hf
  refine gf_RX1_54 C hv2 dX1_start_7 ?_
  refine z_gsW C ev hZ 4 (by decide) rfl kw_288 dX1_start_10 ?_
  obtain ⟨c3, hc3, hf⟩ := zbind hf
  obtain ⟨kc3, hc3⟩ := zck_ok hc3
  refine z_callVi (As := [.ref (ev.1 4)]) (F0 := 4) (L0 := 129) C (mX7_chosen l D Ca B En C.2.2.2.2.2.2.2.1 ev hZ σ1 N v2 4 _ hc3) hRm kc3 rfl kw_177 kw_5 kw_290 kw_175 kw_176 hyX7_chosen (Nat.le_of_ble_eq_true rfl) (Nat.le_of_ble_eq_true rfl) rfl rfl (Nat.le_of_ble_eq_true rfl) dX1_start_13 ?_
  obtain ⟨σ4, hσ4, hf⟩ := zbind hf
  refine gp_RX1_70 C hσ4 dX1_start_16 ?_
  refine z_aload_n C dX1_start_19 rfl 0 rfl ?_
  refine z_aload_n C dX1_start_20 rfl 0 rfl ?_
  obtain ⟨v5, hv5, hf⟩ := zbind hf
  refine gf_RX1_54 C hv5 dX1_start_21 ?_
  refine z_gsW C ev hZ 6 (by decide) rfl kw_291 dX1_start_24 ?_
  obtain ⟨c6, hc6, hf⟩ := zbind hf
  obtain ⟨kc6, hc6⟩ := zck_ok hc6
  refine z_callVi (As := [.ref (ev.1 6)]) (F0 := 4) (L0 := 129) C (mX7_chosen l D Ca B En C.2.2.2.2.2.2.2.1 ev hZ σ4 N v5 6 _ hc6) hRm kc6 rfl kw_177 kw_5 kw_290 kw_175 kw_176 hyX7_chosen (Nat.le_of_ble_eq_true rfl) (Nat.le_of_ble_eq_true rfl) rfl rfl (Nat.le_of_ble_eq_true rfl) dX1_start_27 ?_
  obtain ⟨σ7, hσ7, hf⟩ := zbind hf
  refine gp_RX1_77 C hσ7 dX1_start_30 ?_
  refine z_aload_n C dX1_start_33 rfl 0 rfl ?_
  refine z_aload_n C dX1_start_34 rfl 0 rfl ?_
  obtain ⟨v8, hv8, hf⟩ := zbind hf
  refine gf_RX1_54 C hv8 dX1_start_35 ?_
  refine z_gsW C ev hZ 7 (by decide) rfl kw_293 dX1_start_38 ?_
  obtain ⟨c9, hc9, hf⟩ := zbind hf
  obtain ⟨kc9, hc9⟩ := zck_ok hc9
  refine z_callVi (As := [.ref (ev.1 7)]) (F0 := 4) (L0 := 129) C (mX7_chosen l D Ca B En C.2.2.2.2.2.2.2.1 ev hZ σ7 N v8 7 _ hc9) hRm kc9 rfl kw_177 kw_5 kw_290 kw_175 kw_176 hyX7_chosen (Nat.le_of_ble_eq_true rfl) (Nat.le_of_ble_eq_true rfl) rfl rfl (Nat.le_of_ble_eq_true rfl) dX1_start_41 ?_
  obtain ⟨σ10, hσ10, hf⟩ := zbind hf
  refine gp_RX1_83 C hσ10 dX1_start_44 ?_
  refine z_aload_n C dX1_start_47 rfl 0 rfl ?_
  refine z_aload_n C dX1_start_48 rfl 0 rfl ?_
  obtain ⟨v11, hv11, hf⟩ := zbind hf
  refine gf_RX1_54 C hv11 dX1_start_49 ?_
  refine z_gsW C ev hZ 8 (by decide) rfl kw_295 dX1_start_52 ?_
  obtain ⟨c12, hc12, hf⟩ := zbind hf
  obtain ⟨kc12, hc12⟩ := zck_ok hc12
  refine z_callVi (As := [.ref (ev.1 8)]) (F0 := 4) (L0 := 129) C (mX7_chosen l D Ca B En C.2.2.2.2.2.2.2.1 ev hZ σ10 N v11 8 _ hc12) hRm kc12 rfl kw_177 kw_5 kw_290 kw_175 kw_176 hyX7_chosen (Nat.le_of_ble_eq_true rfl) (Nat.le_of_ble_eq_true rfl) rfl rfl (Nat.le_of_ble_eq_true rfl) dX1_start_55 ?_
  refine z_iconst C 1 dX1_start_58 (by decide) ?_
  refine z_icmp_ne C 66 dX1_start_59 (by decide) (fun q28 => ?_) (fun q28 => ?_)
  · rw [if_neg q28] at hf
    refine z_iconst C 0 dX1_start_66 (by decide) ?_
    refine z_sub [0] rfl ?_
    exact wjX1_start_67 C hRm ev hZ _ _ _ _ _ hf hq
  · rw [if_pos q28] at hf
    refine z_iconst C 1 dX1_start_62 (by decide) ?_
    refine z_goto C 67 dX1_start_63 (by decide) ?_
    refine z_sub [0] rfl ?_
    exact wjX1_start_67 C hRm ev hZ _ _ _ _ _ hf hq

theorem mX1_start (l : Launch) (D : va_G) (Ca : Nat → ClassId) (B : Nat) (En : State → Prop) (hE : zEk B En) (ev : zEv) (hZ : ∀ U : State, En U → zEnv ev B U) (σ : zS) (N : Nat) (x0 : Nat) (x1 : Nat) (X : zS) (hf : fX1_start σ x0 x1 = some X) : zMv l D Ca B En yX1_start cX1_start 2 (Option.none : Option Jvm.ClassFile.FieldType) 4 129 [.ref x0, .ref x1] σ N X () :=
  zMet_v (own := RX1) hE (by decide +kernel) rfl (Nat.le_of_ble_eq_true rfl) (fun p e s m args below meth c C hr hRm => wfX1_start C hRm ev hZ σ x0 x1 X hf (fun pc lv hd => zfin_v (r := ()) C hr hd))
theorem dX1_copyFrom_0 : decode cX1_copyFrom 0 = .ok (.aload_n 0, 1) := by decide +kernel
theorem dX1_copyFrom_1 : decode cX1_copyFrom 1 = .ok (.aload_n 1, 1) := by decide +kernel
theorem dX1_copyFrom_2 : decode cX1_copyFrom 2 = .ok (.getfield 54, 3) := by decide +kernel
theorem dX1_copyFrom_5 : decode cX1_copyFrom 5 = .ok (.putfield 54, 3) := by decide +kernel
theorem dX1_copyFrom_8 : decode cX1_copyFrom 8 = .ok (.aload_n 0, 1) := by decide +kernel
theorem dX1_copyFrom_9 : decode cX1_copyFrom 9 = .ok (.aload_n 1, 1) := by decide +kernel
theorem dX1_copyFrom_10 : decode cX1_copyFrom 10 = .ok (.getfield 70, 3) := by decide +kernel
theorem dX1_copyFrom_13 : decode cX1_copyFrom 13 = .ok (.putfield 70, 3) := by decide +kernel
theorem dX1_copyFrom_16 : decode cX1_copyFrom 16 = .ok (.aload_n 0, 1) := by decide +kernel
theorem dX1_copyFrom_17 : decode cX1_copyFrom 17 = .ok (.aload_n 1, 1) := by decide +kernel
theorem dX1_copyFrom_18 : decode cX1_copyFrom 18 = .ok (.getfield 77, 3) := by decide +kernel
theorem dX1_copyFrom_21 : decode cX1_copyFrom 21 = .ok (.putfield 77, 3) := by decide +kernel
theorem dX1_copyFrom_24 : decode cX1_copyFrom 24 = .ok (.aload_n 0, 1) := by decide +kernel
theorem dX1_copyFrom_25 : decode cX1_copyFrom 25 = .ok (.aload_n 1, 1) := by decide +kernel
theorem dX1_copyFrom_26 : decode cX1_copyFrom 26 = .ok (.getfield 83, 3) := by decide +kernel
theorem dX1_copyFrom_29 : decode cX1_copyFrom 29 = .ok (.putfield 83, 3) := by decide +kernel
theorem dX1_copyFrom_32 : decode cX1_copyFrom 32 = .ok (.aload_n 0, 1) := by decide +kernel
theorem dX1_copyFrom_33 : decode cX1_copyFrom 33 = .ok (.aload_n 1, 1) := by decide +kernel
theorem dX1_copyFrom_34 : decode cX1_copyFrom 34 = .ok (.getfield 89, 3) := by decide +kernel
theorem dX1_copyFrom_37 : decode cX1_copyFrom 37 = .ok (.putfield 89, 3) := by decide +kernel
theorem dX1_copyFrom_40 : decode cX1_copyFrom 40 = .ok (.aload_n 0, 1) := by decide +kernel
theorem dX1_copyFrom_41 : decode cX1_copyFrom 41 = .ok (.aload_n 1, 1) := by decide +kernel
theorem dX1_copyFrom_42 : decode cX1_copyFrom 42 = .ok (.getfield 93, 3) := by decide +kernel
theorem dX1_copyFrom_45 : decode cX1_copyFrom 45 = .ok (.putfield 93, 3) := by decide +kernel
theorem dX1_copyFrom_48 : decode cX1_copyFrom 48 = .ok (.aload_n 0, 1) := by decide +kernel
theorem dX1_copyFrom_49 : decode cX1_copyFrom 49 = .ok (.aload_n 1, 1) := by decide +kernel
theorem dX1_copyFrom_50 : decode cX1_copyFrom 50 = .ok (.getfield 96, 3) := by decide +kernel
theorem dX1_copyFrom_53 : decode cX1_copyFrom 53 = .ok (.putfield 96, 3) := by decide +kernel
theorem dX1_copyFrom_56 : decode cX1_copyFrom 56 = .ok (.aload_n 0, 1) := by decide +kernel
theorem dX1_copyFrom_57 : decode cX1_copyFrom 57 = .ok (.aload_n 1, 1) := by decide +kernel
theorem dX1_copyFrom_58 : decode cX1_copyFrom 58 = .ok (.getfield 99, 3) := by decide +kernel
theorem dX1_copyFrom_61 : decode cX1_copyFrom 61 = .ok (.putfield 99, 3) := by decide +kernel
theorem dX1_copyFrom_64 : decode cX1_copyFrom 64 = .ok (.aload_n 0, 1) := by decide +kernel
theorem dX1_copyFrom_65 : decode cX1_copyFrom 65 = .ok (.aload_n 1, 1) := by decide +kernel
theorem dX1_copyFrom_66 : decode cX1_copyFrom 66 = .ok (.getfield 119, 3) := by decide +kernel
theorem dX1_copyFrom_69 : decode cX1_copyFrom 69 = .ok (.putfield 119, 3) := by decide +kernel
theorem dX1_copyFrom_72 : decode cX1_copyFrom 72 = .ok (.aload_n 0, 1) := by decide +kernel
theorem dX1_copyFrom_73 : decode cX1_copyFrom 73 = .ok (.aload_n 1, 1) := by decide +kernel
theorem dX1_copyFrom_74 : decode cX1_copyFrom 74 = .ok (.getfield 102, 3) := by decide +kernel
theorem dX1_copyFrom_77 : decode cX1_copyFrom 77 = .ok (.putfield 102, 3) := by decide +kernel
theorem dX1_copyFrom_80 : decode cX1_copyFrom 80 = .ok (.aload_n 1, 1) := by decide +kernel
theorem dX1_copyFrom_81 : decode cX1_copyFrom 81 = .ok (.getfield 9, 3) := by decide +kernel
theorem dX1_copyFrom_84 : decode cX1_copyFrom 84 = .ok (.aload_n 0, 1) := by decide +kernel
theorem dX1_copyFrom_85 : decode cX1_copyFrom 85 = .ok (.getfield 9, 3) := by decide +kernel
theorem dX1_copyFrom_88 : decode cX1_copyFrom 88 = .ok (.invokestatic 106, 3) := by decide +kernel
theorem dX1_copyFrom_91 : decode cX1_copyFrom 91 = .ok (.aload_n 1, 1) := by decide +kernel
theorem dX1_copyFrom_92 : decode cX1_copyFrom 92 = .ok (.getfield 15, 3) := by decide +kernel
theorem dX1_copyFrom_95 : decode cX1_copyFrom 95 = .ok (.aload_n 0, 1) := by decide +kernel
theorem dX1_copyFrom_96 : decode cX1_copyFrom 96 = .ok (.getfield 15, 3) := by decide +kernel
theorem dX1_copyFrom_99 : decode cX1_copyFrom 99 = .ok (.invokestatic 106, 3) := by decide +kernel
theorem dX1_copyFrom_102 : decode cX1_copyFrom 102 = .ok (.aload_n 1, 1) := by decide +kernel
theorem dX1_copyFrom_103 : decode cX1_copyFrom 103 = .ok (.getfield 18, 3) := by decide +kernel
theorem dX1_copyFrom_106 : decode cX1_copyFrom 106 = .ok (.aload_n 0, 1) := by decide +kernel
theorem dX1_copyFrom_107 : decode cX1_copyFrom 107 = .ok (.getfield 18, 3) := by decide +kernel
theorem dX1_copyFrom_110 : decode cX1_copyFrom 110 = .ok (.invokestatic 106, 3) := by decide +kernel
theorem dX1_copyFrom_113 : decode cX1_copyFrom 113 = .ok (.aload_n 1, 1) := by decide +kernel
theorem dX1_copyFrom_114 : decode cX1_copyFrom 114 = .ok (.getfield 21, 3) := by decide +kernel
theorem dX1_copyFrom_117 : decode cX1_copyFrom 117 = .ok (.aload_n 0, 1) := by decide +kernel
theorem dX1_copyFrom_118 : decode cX1_copyFrom 118 = .ok (.getfield 21, 3) := by decide +kernel
theorem dX1_copyFrom_121 : decode cX1_copyFrom 121 = .ok (.invokestatic 106, 3) := by decide +kernel
theorem dX1_copyFrom_124 : decode cX1_copyFrom 124 = .ok (.aload_n 1, 1) := by decide +kernel
theorem dX1_copyFrom_125 : decode cX1_copyFrom 125 = .ok (.getfield 24, 3) := by decide +kernel
theorem dX1_copyFrom_128 : decode cX1_copyFrom 128 = .ok (.aload_n 0, 1) := by decide +kernel
theorem dX1_copyFrom_129 : decode cX1_copyFrom 129 = .ok (.getfield 24, 3) := by decide +kernel
theorem dX1_copyFrom_132 : decode cX1_copyFrom 132 = .ok (.invokestatic 106, 3) := by decide +kernel
theorem dX1_copyFrom_135 : decode cX1_copyFrom 135 = .ok (.aload_n 1, 1) := by decide +kernel
theorem dX1_copyFrom_136 : decode cX1_copyFrom 136 = .ok (.getfield 44, 3) := by decide +kernel
theorem dX1_copyFrom_139 : decode cX1_copyFrom 139 = .ok (.aload_n 0, 1) := by decide +kernel
theorem dX1_copyFrom_140 : decode cX1_copyFrom 140 = .ok (.getfield 44, 3) := by decide +kernel
theorem dX1_copyFrom_143 : decode cX1_copyFrom 143 = .ok (.invokestatic 106, 3) := by decide +kernel
theorem dX1_copyFrom_146 : decode cX1_copyFrom 146 = .ok (.aload_n 1, 1) := by decide +kernel
theorem dX1_copyFrom_147 : decode cX1_copyFrom 147 = .ok (.getfield 47, 3) := by decide +kernel
theorem dX1_copyFrom_150 : decode cX1_copyFrom 150 = .ok (.aload_n 0, 1) := by decide +kernel
theorem dX1_copyFrom_151 : decode cX1_copyFrom 151 = .ok (.getfield 47, 3) := by decide +kernel
theorem dX1_copyFrom_154 : decode cX1_copyFrom 154 = .ok (.invokestatic 106, 3) := by decide +kernel
theorem dX1_copyFrom_157 : decode cX1_copyFrom 157 = .ok (.aload_n 0, 1) := by decide +kernel
theorem dX1_copyFrom_158 : decode cX1_copyFrom 158 = .ok (.getfield 30, 3) := by decide +kernel
theorem dX1_copyFrom_161 : decode cX1_copyFrom 161 = .ok (.aload_n 1, 1) := by decide +kernel
theorem dX1_copyFrom_162 : decode cX1_copyFrom 162 = .ok (.getfield 30, 3) := by decide +kernel
theorem dX1_copyFrom_165 : decode cX1_copyFrom 165 = .ok (.invokevirtual 122, 3) := by decide +kernel
theorem dX1_copyFrom_168 : decode cX1_copyFrom 168 = .ok (.aload_n 0, 1) := by decide +kernel
theorem dX1_copyFrom_169 : decode cX1_copyFrom 169 = .ok (.getfield 37, 3) := by decide +kernel
theorem dX1_copyFrom_172 : decode cX1_copyFrom 172 = .ok (.aload_n 1, 1) := by decide +kernel
theorem dX1_copyFrom_173 : decode cX1_copyFrom 173 = .ok (.getfield 37, 3) := by decide +kernel
theorem dX1_copyFrom_176 : decode cX1_copyFrom 176 = .ok (.invokevirtual 126, 3) := by decide +kernel
theorem dX1_copyFrom_179 : decode cX1_copyFrom 179 = .ok (.aload_n 0, 1) := by decide +kernel
theorem dX1_copyFrom_180 : decode cX1_copyFrom 180 = .ok (.getfield 41, 3) := by decide +kernel
theorem dX1_copyFrom_183 : decode cX1_copyFrom 183 = .ok (.aload_n 1, 1) := by decide +kernel
theorem dX1_copyFrom_184 : decode cX1_copyFrom 184 = .ok (.getfield 41, 3) := by decide +kernel
theorem dX1_copyFrom_187 : decode cX1_copyFrom 187 = .ok (.invokevirtual 126, 3) := by decide +kernel
theorem dX1_copyFrom_190 : decode cX1_copyFrom 190 = .ok (.return_, 1) := by decide +kernel
theorem hyX1_copyFrom : yX1_copyFrom.cls ≠ "java/lang/invoke/MethodHandle" ∧ yX1_copyFrom.cls ≠ "java/lang/invoke/VarHandle" ∧ (parseMethodDescriptor yX1_copyFrom.desc).map (fun d => d.parameters.length) = some 1 := ⟨by decide +kernel, by decide +kernel, by decide +kernel⟩
def fX1_copyFrom (σ : zS) (x0 : Nat) (x1 : Nat) : Option zS :=
  (zgR 1 17 σ x1).bind fun v1 => (zpR 1 17 σ x0 (some v1)).bind fun σ2 => (zgI 1 0 σ2 x1).bind fun v3 => (zpI 1 0 σ2 x0 v3).bind fun σ4 => (zgI 1 1 σ4 x1).bind fun v5 => (zpI 1 1 σ4 x0 v5).bind fun σ6 => (zgI 1 2 σ6 x1).bind fun v7 => (zpI 1 2 σ6 x0 v7).bind fun σ8 => (zgI 1 3 σ8 x1).bind fun v9 => (zpZ 1 3 σ8 x0 v9).bind fun σ10 => (zgI 1 4 σ10 x1).bind fun v11 => (zpI 1 4 σ10 x0 v11).bind fun σ12 => (zgI 1 5 σ12 x1).bind fun v13 => (zpI 1 5 σ12 x0 v13).bind fun σ14 => (zgI 1 6 σ14 x1).bind fun v15 => (zpI 1 6 σ14 x0 v15).bind fun σ16 => (zgI 1 7 σ16 x1).bind fun v17 => (zpI 1 7 σ16 x0 v17).bind fun σ18 => (zgI 1 8 σ18 x1).bind fun v19 => (zpI 1 8 σ18 x0 v19).bind fun σ20 => (zgR 1 9 σ20 x1).bind fun v21 => (zgR 1 9 σ20 x0).bind fun v22 => (fX9_copyRow σ20 v21 v22).bind fun c23 => (zgR 1 10 c23 x1).bind fun v24 => (zgR 1 10 c23 x0).bind fun v25 => (fX9_copyRow c23 v24 v25).bind fun c26 => (zgR 1 11 c26 x1).bind fun v27 => (zgR 1 11 c26 x0).bind fun v28 => (fX9_copyRow c26 v27 v28).bind fun c29 => (zgR 1 12 c29 x1).bind fun v30 => (zgR 1 12 c29 x0).bind fun v31 => (fX9_copyRow c29 v30 v31).bind fun c32 => (zgR 1 13 c32 x1).bind fun v33 => (zgR 1 13 c32 x0).bind fun v34 => (fX9_copyRow c32 v33 v34).bind fun c35 => (zgR 1 18 c35 x1).bind fun v36 => (zgR 1 18 c35 x0).bind fun v37 => (fX9_copyRow c35 v36 v37).bind fun c38 => (zgR 1 19 c38 x1).bind fun v39 => (zgR 1 19 c38 x0).bind fun v40 => (fX9_copyRow c38 v39 v40).bind fun c41 => (zgR 1 14 c41 x0).bind fun v42 => (zgR 1 14 c41 x1).bind fun v43 => (zck 3 c41 v42 (fX3_copyFrom c41 v42 v43)).bind fun c44 => (zgR 1 15 c44 x0).bind fun v45 => (zgR 1 15 c44 x1).bind fun v46 => (zck 0 c44 v45 (fX0_copyFrom c44 v45 v46)).bind fun c47 => (zgR 1 16 c47 x0).bind fun v48 => (zgR 1 16 c47 x1).bind fun v49 => (zck 0 c47 v48 (fX0_copyFrom c47 v48 v49)).bind fun c50 => some c50
set_option maxRecDepth 100000 in
set_option maxHeartbeats 4000000 in
theorem wfX1_copyFrom (C : zC p s m args meth c cX1_copyFrom RX1 2 D Ca B En) (hRm : zRm R 4 127 cells slots) (σ : zS) (x0 : Nat) (x1 : Nat) (τ : zS) (hf : fX1_copyFrom σ x0 x1 = some τ) (hq : ∀ (pc : Nat) (lv : List (Nat × Value)), decode cX1_copyFrom pc = .ok (.return_, 1) → zW p l e R s m args below meth c cells slots Q D Ca B 2 τ N pc lv []) : zW p l e R s m args below meth c cells slots Q D Ca B 2 σ N 0 [(0, .ref x0), (1, .ref x1)] [] := by
  unfold fX1_copyFrom at hf
  refine z_aload_n C dX1_copyFrom_0 rfl 0 rfl ?_
  refine z_aload_n C dX1_copyFrom_1 rfl 1 rfl ?_
  obtain ⟨v1, hv1, hf⟩ := zbind hf
  refine gf_RX1_54 C hv1 dX1_copyFrom_2 ?_
  obtain ⟨σ2, hσ2, hf⟩ := zbind hf
  refine gp_RX1_54 C hσ2 dX1_copyFrom_5 ?_
  refine z_aload_n C dX1_copyFrom_8 rfl 0 rfl ?_
  refine z_aload_n C dX1_copyFrom_9 rfl 1 rfl ?_
  obtain ⟨v3, hv3, hf⟩ := zbind hf
  refine gf_RX1_70 C hv3 dX1_copyFrom_10 ?_
  obtain ⟨σ4, hσ4, hf⟩ := zbind hf
  refine gp_RX1_70 C hσ4 dX1_copyFrom_13 ?_
  refine z_aload_n C dX1_copyFrom_16 rfl 0 rfl ?_
  refine z_aload_n C dX1_copyFrom_17 rfl 1 rfl ?_
  obtain ⟨v5, hv5, hf⟩ := zbind hf
  refine gf_RX1_77 C hv5 dX1_copyFrom_18 ?_
  obtain ⟨σ6, hσ6, hf⟩ := zbind hf
  refine gp_RX1_77 C hσ6 dX1_copyFrom_21 ?_
  refine z_aload_n C dX1_copyFrom_24 rfl 0 rfl ?_
  refine z_aload_n C dX1_copyFrom_25 rfl 1 rfl ?_
  obtain ⟨v7, hv7, hf⟩ := zbind hf
  refine gf_RX1_83 C hv7 dX1_copyFrom_26 ?_
  obtain ⟨σ8, hσ8, hf⟩ := zbind hf
  refine gp_RX1_83 C hσ8 dX1_copyFrom_29 ?_
  refine z_aload_n C dX1_copyFrom_32 rfl 0 rfl ?_
  refine z_aload_n C dX1_copyFrom_33 rfl 1 rfl ?_
  obtain ⟨v9, hv9, hf⟩ := zbind hf
  refine gf_RX1_89 C hv9 dX1_copyFrom_34 ?_
  obtain ⟨σ10, hσ10, hf⟩ := zbind hf
  refine gp_RX1_89 C hσ10 dX1_copyFrom_37 ?_
  refine z_aload_n C dX1_copyFrom_40 rfl 0 rfl ?_
  refine z_aload_n C dX1_copyFrom_41 rfl 1 rfl ?_
  obtain ⟨v11, hv11, hf⟩ := zbind hf
  refine gf_RX1_93 C hv11 dX1_copyFrom_42 ?_
  obtain ⟨σ12, hσ12, hf⟩ := zbind hf
  refine gp_RX1_93 C hσ12 dX1_copyFrom_45 ?_
  refine z_aload_n C dX1_copyFrom_48 rfl 0 rfl ?_
  refine z_aload_n C dX1_copyFrom_49 rfl 1 rfl ?_
  obtain ⟨v13, hv13, hf⟩ := zbind hf
  refine gf_RX1_96 C hv13 dX1_copyFrom_50 ?_
  obtain ⟨σ14, hσ14, hf⟩ := zbind hf
  refine gp_RX1_96 C hσ14 dX1_copyFrom_53 ?_
  refine z_aload_n C dX1_copyFrom_56 rfl 0 rfl ?_
  refine z_aload_n C dX1_copyFrom_57 rfl 1 rfl ?_
  obtain ⟨v15, hv15, hf⟩ := zbind hf
  refine gf_RX1_99 C hv15 dX1_copyFrom_58 ?_
  obtain ⟨σ16, hσ16, hf⟩ := zbind hf
  refine gp_RX1_99 C hσ16 dX1_copyFrom_61 ?_
  refine z_aload_n C dX1_copyFrom_64 rfl 0 rfl ?_
  refine z_aload_n C dX1_copyFrom_65 rfl 1 rfl ?_
  obtain ⟨v17, hv17, hf⟩ := zbind hf
  refine gf_RX1_119 C hv17 dX1_copyFrom_66 ?_
  obtain ⟨σ18, hσ18, hf⟩ := zbind hf
  refine gp_RX1_119 C hσ18 dX1_copyFrom_69 ?_
  refine z_aload_n C dX1_copyFrom_72 rfl 0 rfl ?_
  refine z_aload_n C dX1_copyFrom_73 rfl 1 rfl ?_
  obtain ⟨v19, hv19, hf⟩ := zbind hf
  refine gf_RX1_102 C hv19 dX1_copyFrom_74 ?_
  obtain ⟨σ20, hσ20, hf⟩ := zbind hf
  refine gp_RX1_102 C hσ20 dX1_copyFrom_77 ?_
  refine z_aload_n C dX1_copyFrom_80 rfl 1 rfl ?_
  obtain ⟨v21, hv21, hf⟩ := zbind hf
  refine gf_RX1_9 C hv21 dX1_copyFrom_81 ?_
  refine z_aload_n C dX1_copyFrom_84 rfl 0 rfl ?_
  obtain ⟨v22, hv22, hf⟩ := zbind hf
  refine gf_RX1_9 C hv22 dX1_copyFrom_85 ?_
  obtain ⟨c23, hc23, hf⟩ := zbind hf
  refine z_callSNv (host := "BarrierFlow") (As := [.ref v21, .ref v22]) (F0 := 4) (L0 := 127) C (mX9_copyRow l D Ca B En C.2.2.2.2.2.2.2.1 σ20 N v21 v22 _ hc23) hRm kw_299 kw_1 (by decide) kw_298 hyX9_copyRow (Nat.le_of_ble_eq_true rfl) (Nat.le_of_ble_eq_true rfl) rfl rfl (Nat.le_of_ble_eq_true rfl) dX1_copyFrom_88 ?_
  refine z_aload_n C dX1_copyFrom_91 rfl 1 rfl ?_
  obtain ⟨v24, hv24, hf⟩ := zbind hf
  refine gf_RX1_15 C hv24 dX1_copyFrom_92 ?_
  refine z_aload_n C dX1_copyFrom_95 rfl 0 rfl ?_
  obtain ⟨v25, hv25, hf⟩ := zbind hf
  refine gf_RX1_15 C hv25 dX1_copyFrom_96 ?_
  obtain ⟨c26, hc26, hf⟩ := zbind hf
  refine z_callSNv (host := "BarrierFlow") (As := [.ref v24, .ref v25]) (F0 := 4) (L0 := 127) C (mX9_copyRow l D Ca B En C.2.2.2.2.2.2.2.1 c23 N v24 v25 _ hc26) hRm kw_299 kw_1 (by decide) kw_298 hyX9_copyRow (Nat.le_of_ble_eq_true rfl) (Nat.le_of_ble_eq_true rfl) rfl rfl (Nat.le_of_ble_eq_true rfl) dX1_copyFrom_99 ?_
  refine z_aload_n C dX1_copyFrom_102 rfl 1 rfl ?_
  obtain ⟨v27, hv27, hf⟩ := zbind hf
  refine gf_RX1_18 C hv27 dX1_copyFrom_103 ?_
  refine z_aload_n C dX1_copyFrom_106 rfl 0 rfl ?_
  obtain ⟨v28, hv28, hf⟩ := zbind hf
  refine gf_RX1_18 C hv28 dX1_copyFrom_107 ?_
  obtain ⟨c29, hc29, hf⟩ := zbind hf
  refine z_callSNv (host := "BarrierFlow") (As := [.ref v27, .ref v28]) (F0 := 4) (L0 := 127) C (mX9_copyRow l D Ca B En C.2.2.2.2.2.2.2.1 c26 N v27 v28 _ hc29) hRm kw_299 kw_1 (by decide) kw_298 hyX9_copyRow (Nat.le_of_ble_eq_true rfl) (Nat.le_of_ble_eq_true rfl) rfl rfl (Nat.le_of_ble_eq_true rfl) dX1_copyFrom_110 ?_
  refine z_aload_n C dX1_copyFrom_113 rfl 1 rfl ?_
  obtain ⟨v30, hv30, hf⟩ := zbind hf
  refine gf_RX1_21 C hv30 dX1_copyFrom_114 ?_
  refine z_aload_n C dX1_copyFrom_117 rfl 0 rfl ?_
  obtain ⟨v31, hv31, hf⟩ := zbind hf
  refine gf_RX1_21 C hv31 dX1_copyFrom_118 ?_
  obtain ⟨c32, hc32, hf⟩ := zbind hf
  refine z_callSNv (host := "BarrierFlow") (As := [.ref v30, .ref v31]) (F0 := 4) (L0 := 127) C (mX9_copyRow l D Ca B En C.2.2.2.2.2.2.2.1 c29 N v30 v31 _ hc32) hRm kw_299 kw_1 (by decide) kw_298 hyX9_copyRow (Nat.le_of_ble_eq_true rfl) (Nat.le_of_ble_eq_true rfl) rfl rfl (Nat.le_of_ble_eq_true rfl) dX1_copyFrom_121 ?_
  refine z_aload_n C dX1_copyFrom_124 rfl 1 rfl ?_
  obtain ⟨v33, hv33, hf⟩ := zbind hf
  refine gf_RX1_24 C hv33 dX1_copyFrom_125 ?_
  refine z_aload_n C dX1_copyFrom_128 rfl 0 rfl ?_
  obtain ⟨v34, hv34, hf⟩ := zbind hf
  refine gf_RX1_24 C hv34 dX1_copyFrom_129 ?_
  obtain ⟨c35, hc35, hf⟩ := zbind hf
  refine z_callSNv (host := "BarrierFlow") (As := [.ref v33, .ref v34]) (F0 := 4) (L0 := 127) C (mX9_copyRow l D Ca B En C.2.2.2.2.2.2.2.1 c32 N v33 v34 _ hc35) hRm kw_299 kw_1 (by decide) kw_298 hyX9_copyRow (Nat.le_of_ble_eq_true rfl) (Nat.le_of_ble_eq_true rfl) rfl rfl (Nat.le_of_ble_eq_true rfl) dX1_copyFrom_132 ?_
  refine z_aload_n C dX1_copyFrom_135 rfl 1 rfl ?_
  obtain ⟨v36, hv36, hf⟩ := zbind hf
  refine gf_RX1_44 C hv36 dX1_copyFrom_136 ?_
  refine z_aload_n C dX1_copyFrom_139 rfl 0 rfl ?_
  obtain ⟨v37, hv37, hf⟩ := zbind hf
  refine gf_RX1_44 C hv37 dX1_copyFrom_140 ?_
  obtain ⟨c38, hc38, hf⟩ := zbind hf
  refine z_callSNv (host := "BarrierFlow") (As := [.ref v36, .ref v37]) (F0 := 4) (L0 := 127) C (mX9_copyRow l D Ca B En C.2.2.2.2.2.2.2.1 c35 N v36 v37 _ hc38) hRm kw_299 kw_1 (by decide) kw_298 hyX9_copyRow (Nat.le_of_ble_eq_true rfl) (Nat.le_of_ble_eq_true rfl) rfl rfl (Nat.le_of_ble_eq_true rfl) dX1_copyFrom_143 ?_
  refine z_aload_n C dX1_copyFrom_146 rfl 1 rfl ?_
  obtain ⟨v39, hv39, hf⟩ := zbind hf
  refine gf_RX1_47 C hv39 dX1_copyFrom_147 ?_
  refine z_aload_n C dX1_copyFrom_150 rfl 0 rfl ?_
  obtain ⟨v40, hv40, hf⟩ := zbind hf
  refine gf_RX1_47 C hv40 dX1_copyFrom_151 ?_
  obtain ⟨c41, hc41, hf⟩ := zbind hf
  refine z_callSNv (host := "BarrierFlow") (As := [.ref v39, .ref v40]) (F0 := 4) (L0 := 127) C (mX9_copyRow l D Ca B En C.2.2.2.2.2.2.2.1 c38 N v39 v40 _ hc41) hRm kw_299 kw_1 (by decide) kw_298 hyX9_copyRow (Nat.le_of_ble_eq_true rfl) (Nat.le_of_ble_eq_true rfl) rfl rfl (Nat.le_of_ble_eq_true rfl) dX1_copyFrom_154 ?_
  refine z_aload_n C dX1_copyFrom_157 rfl 0 rfl ?_
  obtain ⟨v42, hv42, hf⟩ := zbind hf
  refine gf_RX1_30 C hv42 dX1_copyFrom_158 ?_
  refine z_aload_n C dX1_copyFrom_161 rfl 1 rfl ?_
  obtain ⟨v43, hv43, hf⟩ := zbind hf
  refine gf_RX1_30 C hv43 dX1_copyFrom_162 ?_
  obtain ⟨c44, hc44, hf⟩ := zbind hf
  obtain ⟨kc44, hc44⟩ := zck_ok hc44
  refine z_callVv (As := [.ref v43]) (F0 := 4) (L0 := 127) C (mX3_copyFrom l D Ca B En C.2.2.2.2.2.2.2.1 c41 N v42 v43 _ hc44) hRm kc44 rfl kw_704 kw_9 kw_701 kw_702 kw_703 hyX3_copyFrom (Nat.le_of_ble_eq_true rfl) (Nat.le_of_ble_eq_true rfl) rfl rfl (Nat.le_of_ble_eq_true rfl) dX1_copyFrom_165 ?_
  refine z_aload_n C dX1_copyFrom_168 rfl 0 rfl ?_
  obtain ⟨v45, hv45, hf⟩ := zbind hf
  refine gf_RX1_37 C hv45 dX1_copyFrom_169 ?_
  refine z_aload_n C dX1_copyFrom_172 rfl 1 rfl ?_
  obtain ⟨v46, hv46, hf⟩ := zbind hf
  refine gf_RX1_37 C hv46 dX1_copyFrom_173 ?_
  obtain ⟨c47, hc47, hf⟩ := zbind hf
  obtain ⟨kc47, hc47⟩ := zck_ok hc47
  refine z_callVv (As := [.ref v46]) (F0 := 4) (L0 := 127) C (mX0_copyFrom l D Ca B En C.2.2.2.2.2.2.2.1 c44 N v45 v46 _ hc47) hRm kc47 rfl kw_709 kw_10 kw_706 kw_707 kw_708 hyX0_copyFrom (Nat.le_of_ble_eq_true rfl) (Nat.le_of_ble_eq_true rfl) rfl rfl (Nat.le_of_ble_eq_true rfl) dX1_copyFrom_176 ?_
  refine z_aload_n C dX1_copyFrom_179 rfl 0 rfl ?_
  obtain ⟨v48, hv48, hf⟩ := zbind hf
  refine gf_RX1_41 C hv48 dX1_copyFrom_180 ?_
  refine z_aload_n C dX1_copyFrom_183 rfl 1 rfl ?_
  obtain ⟨v49, hv49, hf⟩ := zbind hf
  refine gf_RX1_41 C hv49 dX1_copyFrom_184 ?_
  obtain ⟨c50, hc50, hf⟩ := zbind hf
  obtain ⟨kc50, hc50⟩ := zck_ok hc50
  refine z_callVv (As := [.ref v49]) (F0 := 4) (L0 := 127) C (mX0_copyFrom l D Ca B En C.2.2.2.2.2.2.2.1 c47 N v48 v49 _ hc50) hRm kc50 rfl kw_709 kw_10 kw_706 kw_707 kw_708 hyX0_copyFrom (Nat.le_of_ble_eq_true rfl) (Nat.le_of_ble_eq_true rfl) rfl rfl (Nat.le_of_ble_eq_true rfl) dX1_copyFrom_187 ?_
  cases hf
  exact hq _ _ dX1_copyFrom_190

theorem mX1_copyFrom (l : Launch) (D : va_G) (Ca : Nat → ClassId) (B : Nat) (En : State → Prop) (hE : zEk B En) (σ : zS) (N : Nat) (x0 : Nat) (x1 : Nat) (X : zS) (hf : fX1_copyFrom σ x0 x1 = some X) : zMv l D Ca B En yX1_copyFrom cX1_copyFrom 2 (Option.none : Option Jvm.ClassFile.FieldType) 4 127 [.ref x0, .ref x1] σ N X () :=
  zMet_v (own := RX1) hE (by decide +kernel) rfl (Nat.le_of_ble_eq_true rfl) (fun p e s m args below meth c C hr hRm => wfX1_copyFrom C hRm σ x0 x1 X hf (fun pc lv hd => zfin_v (r := ()) C hr hd))
theorem dX1_startCheckpoint_0 : decode cX1_startCheckpoint 0 = .ok (.aload_n 0, 1) := by decide +kernel
theorem dX1_startCheckpoint_1 : decode cX1_startCheckpoint 1 = .ok (.dup, 1) := by decide +kernel
theorem dX1_startCheckpoint_2 : decode cX1_startCheckpoint 2 = .ok (.getfield 96, 3) := by decide +kernel
theorem dX1_startCheckpoint_5 : decode cX1_startCheckpoint 5 = .ok (.iconst 1, 1) := by decide +kernel
theorem dX1_startCheckpoint_6 : decode cX1_startCheckpoint 6 = .ok (.iadd, 1) := by decide +kernel
theorem dX1_startCheckpoint_7 : decode cX1_startCheckpoint 7 = .ok (.putfield 96, 3) := by decide +kernel
theorem dX1_startCheckpoint_10 : decode cX1_startCheckpoint 10 = .ok (.aload_n 0, 1) := by decide +kernel
theorem dX1_startCheckpoint_11 : decode cX1_startCheckpoint 11 = .ok (.getfield 37, 3) := by decide +kernel
theorem dX1_startCheckpoint_14 : decode cX1_startCheckpoint 14 = .ok (.aload_n 0, 1) := by decide +kernel
theorem dX1_startCheckpoint_15 : decode cX1_startCheckpoint 15 = .ok (.getfield 96, 3) := by decide +kernel
theorem dX1_startCheckpoint_18 : decode cX1_startCheckpoint 18 = .ok (.aload_n 0, 1) := by decide +kernel
theorem dX1_startCheckpoint_19 : decode cX1_startCheckpoint 19 = .ok (.getfield 93, 3) := by decide +kernel
theorem dX1_startCheckpoint_22 : decode cX1_startCheckpoint 22 = .ok (.iload_n 1, 1) := by decide +kernel
theorem dX1_startCheckpoint_23 : decode cX1_startCheckpoint 23 = .ok (.invokevirtual 170, 3) := by decide +kernel
theorem dX1_startCheckpoint_26 : decode cX1_startCheckpoint 26 = .ok (.return_, 1) := by decide +kernel
theorem hyX1_startCheckpoint : yX1_startCheckpoint.cls ≠ "java/lang/invoke/MethodHandle" ∧ yX1_startCheckpoint.cls ≠ "java/lang/invoke/VarHandle" ∧ (parseMethodDescriptor yX1_startCheckpoint.desc).map (fun d => d.parameters.length) = some 1 := ⟨by decide +kernel, by decide +kernel, by decide +kernel⟩
def fX1_startCheckpoint (σ : zS) (x0 : Nat) (x1 : Int32) : Option zS :=
  (zgI 1 5 σ x0).bind fun v1 => (zpI 1 5 σ x0 (v1 + 1)).bind fun σ2 => (zgR 1 15 σ2 x0).bind fun v3 => (zgI 1 5 σ2 x0).bind fun v4 => (zgI 1 4 σ2 x0).bind fun v5 => (zck 0 σ2 v3 (fX0_start σ2 v3 v4 v5 x1)).bind fun c6 => some c6
set_option maxRecDepth 100000 in
set_option maxHeartbeats 4000000 in
theorem wfX1_startCheckpoint (C : zC p s m args meth c cX1_startCheckpoint RX1 2 D Ca B En) (hRm : zRm R 3 65 cells slots) (σ : zS) (x0 : Nat) (x1 : Int32) (τ : zS) (hf : fX1_startCheckpoint σ x0 x1 = some τ) (hq : ∀ (pc : Nat) (lv : List (Nat × Value)), decode cX1_startCheckpoint pc = .ok (.return_, 1) → zW p l e R s m args below meth c cells slots Q D Ca B 2 τ N pc lv []) : zW p l e R s m args below meth c cells slots Q D Ca B 2 σ N 0 [(0, .ref x0), (1, .int x1)] [] := by
  unfold fX1_startCheckpoint at hf
  refine z_aload_n C dX1_startCheckpoint_0 rfl 0 rfl ?_
  refine z_dup C dX1_startCheckpoint_1 rfl ?_
  obtain ⟨v1, hv1, hf⟩ := zbind hf
  refine gf_RX1_96 C hv1 dX1_startCheckpoint_2 ?_
  refine z_iconst C 1 dX1_startCheckpoint_5 (by decide) ?_
  refine z_iadd C dX1_startCheckpoint_6 ?_
  obtain ⟨σ2, hσ2, hf⟩ := zbind hf
  refine gp_RX1_96 C hσ2 dX1_startCheckpoint_7 ?_
  refine z_aload_n C dX1_startCheckpoint_10 rfl 0 rfl ?_
  obtain ⟨v3, hv3, hf⟩ := zbind hf
  refine gf_RX1_37 C hv3 dX1_startCheckpoint_11 ?_
  refine z_aload_n C dX1_startCheckpoint_14 rfl 0 rfl ?_
  obtain ⟨v4, hv4, hf⟩ := zbind hf
  refine gf_RX1_96 C hv4 dX1_startCheckpoint_15 ?_
  refine z_aload_n C dX1_startCheckpoint_18 rfl 0 rfl ?_
  obtain ⟨v5, hv5, hf⟩ := zbind hf
  refine gf_RX1_93 C hv5 dX1_startCheckpoint_19 ?_
  refine z_iload_n C dX1_startCheckpoint_22 rfl 1 rfl ?_
  obtain ⟨c6, hc6, hf⟩ := zbind hf
  obtain ⟨kc6, hc6⟩ := zck_ok hc6
  refine z_callVv (As := [.int v4, .int v5, .int x1]) (F0 := 3) (L0 := 65) C (mX0_start l D Ca B En C.2.2.2.2.2.2.2.1 σ2 N v3 v4 v5 x1 _ hc6) hRm kc6 rfl kw_726 kw_10 kw_723 kw_724 kw_725 hyX0_start (Nat.le_of_ble_eq_true rfl) (Nat.le_of_ble_eq_true rfl) rfl rfl (Nat.le_of_ble_eq_true rfl) dX1_startCheckpoint_23 ?_
  cases hf
  exact hq _ _ dX1_startCheckpoint_26

theorem mX1_startCheckpoint (l : Launch) (D : va_G) (Ca : Nat → ClassId) (B : Nat) (En : State → Prop) (hE : zEk B En) (σ : zS) (N : Nat) (x0 : Nat) (x1 : Int32) (X : zS) (hf : fX1_startCheckpoint σ x0 x1 = some X) : zMv l D Ca B En yX1_startCheckpoint cX1_startCheckpoint 2 (Option.none : Option Jvm.ClassFile.FieldType) 3 65 [.ref x0, .int x1] σ N X () :=
  zMet_v (own := RX1) hE (by decide +kernel) rfl (Nat.le_of_ble_eq_true rfl) (fun p e s m args below meth c C hr hRm => wfX1_startCheckpoint C hRm σ x0 x1 X hf (fun pc lv hd => zfin_v (r := ()) C hr hd))
theorem dX1_putBarriers_0 : decode cX1_putBarriers 0 = .ok (.aload_n 0, 1) := by decide +kernel
theorem dX1_putBarriers_1 : decode cX1_putBarriers 1 = .ok (.getfield 37, 3) := by decide +kernel
theorem dX1_putBarriers_4 : decode cX1_putBarriers 4 = .ok (.invokevirtual 129, 3) := by decide +kernel
theorem dX1_putBarriers_7 : decode cX1_putBarriers 7 = .ok (.ifCond .eq 35, 3) := by decide +kernel
theorem dX1_putBarriers_10 : decode cX1_putBarriers 10 = .ok (.aload_n 0, 1) := by decide +kernel
theorem dX1_putBarriers_11 : decode cX1_putBarriers 11 = .ok (.getfield 37, 3) := by decide +kernel
theorem dX1_putBarriers_14 : decode cX1_putBarriers 14 = .ok (.iload_n 1, 1) := by decide +kernel
theorem dX1_putBarriers_15 : decode cX1_putBarriers 15 = .ok (.invokevirtual 179, 3) := by decide +kernel
theorem dX1_putBarriers_18 : decode cX1_putBarriers 18 = .ok (.ifCond .ne 24, 3) := by decide +kernel
theorem dX1_putBarriers_21 : decode cX1_putBarriers 21 = .ok (.aload_n 0, 1) := by decide +kernel
theorem dX1_putBarriers_22 : decode cX1_putBarriers 22 = .ok (.getfield 93, 3) := by decide +kernel
theorem dX1_putBarriers_25 : decode cX1_putBarriers 25 = .ok (.aload_n 0, 1) := by decide +kernel
theorem dX1_putBarriers_26 : decode cX1_putBarriers 26 = .ok (.getfield 37, 3) := by decide +kernel
theorem dX1_putBarriers_29 : decode cX1_putBarriers 29 = .ok (.getfield 183, 3) := by decide +kernel
theorem dX1_putBarriers_32 : decode cX1_putBarriers 32 = .ok (.isub, 1) := by decide +kernel
theorem dX1_putBarriers_33 : decode cX1_putBarriers 33 = .ok (.aload_n 0, 1) := by decide +kernel
theorem dX1_putBarriers_34 : decode cX1_putBarriers 34 = .ok (.getfield 9, 3) := by decide +kernel
theorem dX1_putBarriers_37 : decode cX1_putBarriers 37 = .ok (.iload_n 1, 1) := by decide +kernel
theorem dX1_putBarriers_38 : decode cX1_putBarriers 38 = .ok (.iaload, 1) := by decide +kernel
theorem dX1_putBarriers_39 : decode cX1_putBarriers 39 = .ok (.if_icmp .ge 4, 3) := by decide +kernel
theorem dX1_putBarriers_42 : decode cX1_putBarriers 42 = .ok (.return_, 1) := by decide +kernel
theorem dX1_putBarriers_43 : decode cX1_putBarriers 43 = .ok (.aload_n 0, 1) := by decide +kernel
theorem dX1_putBarriers_44 : decode cX1_putBarriers 44 = .ok (.getfield 37, 3) := by decide +kernel
theorem dX1_putBarriers_47 : decode cX1_putBarriers 47 = .ok (.dup, 1) := by decide +kernel
theorem dX1_putBarriers_48 : decode cX1_putBarriers 48 = .ok (.getfield 186, 3) := by decide +kernel
theorem dX1_putBarriers_51 : decode cX1_putBarriers 51 = .ok (.iconst 1, 1) := by decide +kernel
theorem dX1_putBarriers_52 : decode cX1_putBarriers 52 = .ok (.iload_n 1, 1) := by decide +kernel
theorem dX1_putBarriers_53 : decode cX1_putBarriers 53 = .ok (.ishl, 1) := by decide +kernel
theorem dX1_putBarriers_54 : decode cX1_putBarriers 54 = .ok (.ior, 1) := by decide +kernel
theorem dX1_putBarriers_55 : decode cX1_putBarriers 55 = .ok (.putfield 186, 3) := by decide +kernel
theorem dX1_putBarriers_58 : decode cX1_putBarriers 58 = .ok (.aload_n 0, 1) := by decide +kernel
theorem dX1_putBarriers_59 : decode cX1_putBarriers 59 = .ok (.getfield 37, 3) := by decide +kernel
theorem dX1_putBarriers_62 : decode cX1_putBarriers 62 = .ok (.getfield 189, 3) := by decide +kernel
theorem dX1_putBarriers_65 : decode cX1_putBarriers 65 = .ok (.iload_n 1, 1) := by decide +kernel
theorem dX1_putBarriers_66 : decode cX1_putBarriers 66 = .ok (.aload_n 0, 1) := by decide +kernel
theorem dX1_putBarriers_67 : decode cX1_putBarriers 67 = .ok (.getfield 15, 3) := by decide +kernel
theorem dX1_putBarriers_70 : decode cX1_putBarriers 70 = .ok (.iload_n 1, 1) := by decide +kernel
theorem dX1_putBarriers_71 : decode cX1_putBarriers 71 = .ok (.iaload, 1) := by decide +kernel
theorem dX1_putBarriers_72 : decode cX1_putBarriers 72 = .ok (.iastore, 1) := by decide +kernel
theorem dX1_putBarriers_73 : decode cX1_putBarriers 73 = .ok (.iconst 0, 1) := by decide +kernel
theorem dX1_putBarriers_74 : decode cX1_putBarriers 74 = .ok (.istore_n 2, 1) := by decide +kernel
theorem dX1_putBarriers_75 : decode cX1_putBarriers 75 = .ok (.iload_n 2, 1) := by decide +kernel
theorem dX1_putBarriers_76 : decode cX1_putBarriers 76 = .ok (.aload_n 0, 1) := by decide +kernel
theorem dX1_putBarriers_77 : decode cX1_putBarriers 77 = .ok (.getfield 70, 3) := by decide +kernel
theorem dX1_putBarriers_80 : decode cX1_putBarriers 80 = .ok (.if_icmp .ge 29, 3) := by decide +kernel
theorem dX1_putBarriers_83 : decode cX1_putBarriers 83 = .ok (.iload_n 2, 1) := by decide +kernel
theorem dX1_putBarriers_84 : decode cX1_putBarriers 84 = .ok (.iload_n 1, 1) := by decide +kernel
theorem dX1_putBarriers_85 : decode cX1_putBarriers 85 = .ok (.invokestatic 190, 3) := by decide +kernel
theorem dX1_putBarriers_88 : decode cX1_putBarriers 88 = .ok (.istore_n 3, 1) := by decide +kernel
theorem dX1_putBarriers_89 : decode cX1_putBarriers 89 = .ok (.aload_n 0, 1) := by decide +kernel
theorem dX1_putBarriers_90 : decode cX1_putBarriers 90 = .ok (.getfield 47, 3) := by decide +kernel
theorem dX1_putBarriers_93 : decode cX1_putBarriers 93 = .ok (.iload_n 3, 1) := by decide +kernel
theorem dX1_putBarriers_94 : decode cX1_putBarriers 94 = .ok (.aload_n 0, 1) := by decide +kernel
theorem dX1_putBarriers_95 : decode cX1_putBarriers 95 = .ok (.getfield 30, 3) := by decide +kernel
theorem dX1_putBarriers_98 : decode cX1_putBarriers 98 = .ok (.iload_n 3, 1) := by decide +kernel
theorem dX1_putBarriers_99 : decode cX1_putBarriers 99 = .ok (.invokevirtual 194, 3) := by decide +kernel
theorem dX1_putBarriers_102 : decode cX1_putBarriers 102 = .ok (.iastore, 1) := by decide +kernel
theorem dX1_putBarriers_103 : decode cX1_putBarriers 103 = .ok (.iinc 2 1, 3) := by decide +kernel
theorem dX1_putBarriers_106 : decode cX1_putBarriers 106 = .ok (.goto (-31), 3) := by decide +kernel
theorem dX1_putBarriers_109 : decode cX1_putBarriers 109 = .ok (.return_, 1) := by decide +kernel
theorem hyX1_putBarriers : yX1_putBarriers.cls ≠ "java/lang/invoke/MethodHandle" ∧ yX1_putBarriers.cls ≠ "java/lang/invoke/VarHandle" ∧ (parseMethodDescriptor yX1_putBarriers.desc).map (fun d => d.parameters.length) = some 1 := ⟨by decide +kernel, by decide +kernel, by decide +kernel⟩
def sX1_putBarriers_75b (x0 : Nat) (x1 : Int32) (σ : zS) (u2 : Int32) : Option ((zS × Int32) ⊕ zS) :=
  (zgI 1 0 σ x0).bind fun v18 => (if v18 ≤ u2 then some (.inr σ) else (fX9_channel σ u2 x1).bind fun c19 => (zgR 1 19 c19.1 x0).bind fun v20 => (zgR 1 14 c19.1 x0).bind fun v21 => (zck 3 c19.1 v21 (fX3_sizeOf c19.1 v21 c19.2)).bind fun c22 => (zsI c22.1 v20 c19.2 c22.2).bind fun σ23 => some (.inl (σ23, u2 + 1)))
def sX1_putBarriers_75 (x0 : Nat) (x1 : Int32) (z : (zS × Int32)) : Option ((zS × Int32) ⊕ zS) := sX1_putBarriers_75b x0 x1 z.1 z.2
set_option maxRecDepth 100000 in
set_option maxHeartbeats 4000000 in
theorem wsX1_putBarriers_75b (C : zC p s m args meth c cX1_putBarriers RX1 4 D Ca B En) (hRm : zRm R 2 41 cells slots) (x0 : Nat) (x1 : Int32) (σ : zS) (u2 : Int32) (y : (zS × Int32) ⊕ zS) (hf : sX1_putBarriers_75b x0 x1 σ u2 = some y) (hk : (∀ z : (zS × Int32), y = .inl z → zW p l e R s m args below meth c cells slots Q D Ca B 4 z.1 N 75 [(0, .ref x0), (1, .int x1), (2, .int z.2)] []) ∧ (∀ z : zS, y = .inr z → zW p l e R s m args below meth c cells slots Q D Ca B 4 z N 109 [] [])) : zW p l e R s m args below meth c cells slots Q D Ca B 4 σ N 75 [(0, .ref x0), (1, .int x1), (2, .int u2)] [] := by
  unfold sX1_putBarriers_75b at hf
  refine z_iload_n C dX1_putBarriers_75 rfl 2 rfl ?_
  refine z_aload_n C dX1_putBarriers_76 rfl 0 rfl ?_
  obtain ⟨v18, hv18, hf⟩ := zbind hf
  refine gf_RX1_70 C hv18 dX1_putBarriers_77 ?_
  refine z_icmp_ge C 109 dX1_putBarriers_80 (by decide) (fun q24 => ?_) (fun q24 => ?_)
  · rw [if_pos q24] at hf
    cases hf
    refine z_sub [] rfl ?_
    exact hk.2 _ rfl
  · rw [if_neg q24] at hf
    refine z_iload_n C dX1_putBarriers_83 rfl 2 rfl ?_
    refine z_iload_n C dX1_putBarriers_84 rfl 1 rfl ?_
    obtain ⟨c19, hc19, hf⟩ := zbind hf
    refine z_callSNi (host := "BarrierFlow") (As := [.int u2, .int x1]) (F0 := 2) (L0 := 41) C (mX9_channel l D Ca B En C.2.2.2.2.2.2.2.1 σ N u2 x1 _ hc19) hRm kw_686 kw_1 (by decide) kw_685 hyX9_channel (Nat.le_of_ble_eq_true rfl) (Nat.le_of_ble_eq_true rfl) rfl rfl (Nat.le_of_ble_eq_true rfl) dX1_putBarriers_85 ?_
    refine z_istore_n (lv2 := [(3, .int c19.2), (0, .ref x0), (1, .int x1), (2, .int u2)]) C dX1_putBarriers_88 rfl (by decide) rfl ?_
    refine z_aload_n C dX1_putBarriers_89 rfl 1 rfl ?_
    obtain ⟨v20, hv20, hf⟩ := zbind hf
    refine gf_RX1_47 C hv20 dX1_putBarriers_90 ?_
    refine z_iload_n C dX1_putBarriers_93 rfl 0 rfl ?_
    refine z_aload_n C dX1_putBarriers_94 rfl 1 rfl ?_
    obtain ⟨v21, hv21, hf⟩ := zbind hf
    refine gf_RX1_30 C hv21 dX1_putBarriers_95 ?_
    refine z_iload_n C dX1_putBarriers_98 rfl 0 rfl ?_
    obtain ⟨c22, hc22, hf⟩ := zbind hf
    obtain ⟨kc22, hc22⟩ := zck_ok hc22
    refine z_callVi (As := [.int c19.2]) (F0 := 2) (L0 := 41) C (mX3_sizeOf l D Ca B En C.2.2.2.2.2.2.2.1 c19.1 N v21 c19.2 _ hc22) hRm kc22 rfl kw_342 kw_9 kw_339 kw_340 kw_341 hyX3_sizeOf (Nat.le_of_ble_eq_true rfl) (Nat.le_of_ble_eq_true rfl) rfl rfl (Nat.le_of_ble_eq_true rfl) dX1_putBarriers_99 ?_
    obtain ⟨σ23, hσ23, hf⟩ := zbind hf
    refine z_sI C hσ23 dX1_putBarriers_102 ?_
    refine z_iinc (lv2 := [(2, .int (u2 + 1)), (3, .int c19.2), (0, .ref x0), (1, .int x1)]) C (u2 + 1) dX1_putBarriers_103 3 rfl rfl (by decide) rfl ?_
    refine z_goto C 75 dX1_putBarriers_106 (by decide) ?_
    cases hf
    refine z_sub [2, 3, 0] rfl ?_
    exact hk.1 _ rfl

theorem wsX1_putBarriers_75 (C : zC p s m args meth c cX1_putBarriers RX1 4 D Ca B En) (hRm : zRm R 2 41 cells slots) (x0 : Nat) (x1 : Int32) (n : Nat) (z : (zS × Int32)) (x : zS) (hf : zloop (sX1_putBarriers_75 x0 x1) n z = some x) (hk : (∀ o : zS, x = o → zW p l e R s m args below meth c cells slots Q D Ca B 4 o N 109 [] [])) : zW p l e R s m args below meth c cells slots Q D Ca B 4 z.1 N 75 [(0, .ref x0), (1, .int x1), (2, .int z.2)] [] := by
  refine zloop_W (P := fun z : (zS × Int32) => zW p l e R s m args below meth c cells slots Q D Ca B 4 z.1 N 75 [(0, .ref x0), (1, .int x1), (2, .int z.2)] []) (K := fun x : zS => (∀ o : zS, x = o → zW p l e R s m args below meth c cells slots Q D Ca B 4 o N 109 [] [])) ?_ n z x hf hk
  intro z y hy h1 h2
  refine wsX1_putBarriers_75b C hRm x0 x1 z.1 z.2 y hy ⟨fun z2 e => h1 z2 e, fun o e => (h2 _ e) o rfl⟩
def fX1_putBarriers (σ : zS) (x0 : Nat) (x1 : Int32) : Option zS :=
  (zgR 1 15 σ x0).bind fun v1 => (zck 0 σ v1 (fX0_exists σ v1 )).bind fun c2 => (if c2.2 = 0 then some c2.1 else (zgR 1 15 c2.1 x0).bind fun v3 => (zck 0 c2.1 v3 (fX0_hasPut c2.1 v3 x1)).bind fun c4 => (if c4.2 = 0 then (zgI 1 4 c4.1 x0).bind fun v5 => (zgR 1 15 c4.1 x0).bind fun v6 => (zgI 0 1 c4.1 v6).bind fun v7 => (zgR 1 9 c4.1 x0).bind fun v8 => (zaI c4.1 v8 x1).bind fun v9 => (if v9 ≤ (v5 - v7) then (zgR 1 15 c4.1 x0).bind fun v10 => (zgI 0 5 c4.1 v10).bind fun v11 => (zpI 0 5 c4.1 v10 (v11 ||| (1 <<< (x1 &&& 31)))).bind fun σ12 => (zgR 1 15 σ12 x0).bind fun v13 => (zgR 0 8 σ12 v13).bind fun v14 => (zgR 1 10 σ12 x0).bind fun v15 => (zaI σ12 v15 x1).bind fun v16 => (zsI σ12 v14 x1 v16).bind fun σ17 => (zloop (sX1_putBarriers_75 x0 x1) zfuel (σ17, 0)).bind fun o25 => some o25 else some c4.1) else some c4.1))
set_option maxRecDepth 100000 in
set_option maxHeartbeats 4000000 in
theorem wfX1_putBarriers (C : zC p s m args meth c cX1_putBarriers RX1 4 D Ca B En) (hRm : zRm R 2 41 cells slots) (σ : zS) (x0 : Nat) (x1 : Int32) (τ : zS) (hf : fX1_putBarriers σ x0 x1 = some τ) (hq : ∀ (pc : Nat) (lv : List (Nat × Value)), decode cX1_putBarriers pc = .ok (.return_, 1) → zW p l e R s m args below meth c cells slots Q D Ca B 4 τ N pc lv []) : zW p l e R s m args below meth c cells slots Q D Ca B 4 σ N 0 [(0, .ref x0), (1, .int x1)] [] := by
  unfold fX1_putBarriers at hf
  refine z_aload_n C dX1_putBarriers_0 rfl 0 rfl ?_
  obtain ⟨v1, hv1, hf⟩ := zbind hf
  refine gf_RX1_37 C hv1 dX1_putBarriers_1 ?_
  obtain ⟨c2, hc2, hf⟩ := zbind hf
  obtain ⟨kc2, hc2⟩ := zck_ok hc2
  refine z_callVi (As := []) (F0 := 2) (L0 := 41) C (mX0_exists l D Ca B En C.2.2.2.2.2.2.2.1 σ N v1  _ hc2) hRm kc2 rfl kw_318 kw_10 kw_315 kw_316 kw_317 hyX0_exists (Nat.le_of_ble_eq_true rfl) (Nat.le_of_ble_eq_true rfl) rfl rfl (Nat.le_of_ble_eq_true rfl) dX1_putBarriers_4 ?_
  refine z_if_eq C 42 dX1_putBarriers_7 (by decide) (fun q28 => ?_) (fun q28 => ?_)
  · rw [if_pos q28] at hf
    cases hf
    exact hq _ _ dX1_putBarriers_42
  · rw [if_neg q28] at hf
    refine z_aload_n C dX1_putBarriers_10 rfl 0 rfl ?_
    obtain ⟨v3, hv3, hf⟩ := zbind hf
    refine gf_RX1_37 C hv3 dX1_putBarriers_11 ?_
    refine z_iload_n C dX1_putBarriers_14 rfl 1 rfl ?_
    obtain ⟨c4, hc4, hf⟩ := zbind hf
    obtain ⟨kc4, hc4⟩ := zck_ok hc4
    refine z_callVi (As := [.int x1]) (F0 := 2) (L0 := 41) C (mX0_hasPut l D Ca B En C.2.2.2.2.2.2.2.1 c2.1 N v3 x1 _ hc4) hRm kc4 rfl kw_745 kw_10 kw_742 kw_743 kw_744 hyX0_hasPut (Nat.le_of_ble_eq_true rfl) (Nat.le_of_ble_eq_true rfl) rfl rfl (Nat.le_of_ble_eq_true rfl) dX1_putBarriers_15 ?_
    refine z_if_ne C 42 dX1_putBarriers_18 (by decide) (fun q27 => ?_) (fun q27 => ?_)
    · rw [if_neg q27] at hf
      cases hf
      exact hq _ _ dX1_putBarriers_42
    · rw [if_pos q27] at hf
      refine z_aload_n C dX1_putBarriers_21 rfl 0 rfl ?_
      obtain ⟨v5, hv5, hf⟩ := zbind hf
      refine gf_RX1_93 C hv5 dX1_putBarriers_22 ?_
      refine z_aload_n C dX1_putBarriers_25 rfl 0 rfl ?_
      obtain ⟨v6, hv6, hf⟩ := zbind hf
      refine gf_RX1_37 C hv6 dX1_putBarriers_26 ?_
      obtain ⟨v7, hv7, hf⟩ := zbind hf
      refine gf_RX1_183 C hv7 dX1_putBarriers_29 ?_
      refine z_isub C dX1_putBarriers_32 ?_
      refine z_aload_n C dX1_putBarriers_33 rfl 0 rfl ?_
      obtain ⟨v8, hv8, hf⟩ := zbind hf
      refine gf_RX1_9 C hv8 dX1_putBarriers_34 ?_
      refine z_iload_n C dX1_putBarriers_37 rfl 1 rfl ?_
      obtain ⟨v9, hv9, hf⟩ := zbind hf
      refine z_aI C hv9 dX1_putBarriers_38 ?_
      refine z_icmp_ge C 43 dX1_putBarriers_39 (by decide) (fun q26 => ?_) (fun q26 => ?_)
      · rw [if_pos q26] at hf
        refine z_aload_n C dX1_putBarriers_43 rfl 0 rfl ?_
        obtain ⟨v10, hv10, hf⟩ := zbind hf
        refine gf_RX1_37 C hv10 dX1_putBarriers_44 ?_
        refine z_dup C dX1_putBarriers_47 rfl ?_
        obtain ⟨v11, hv11, hf⟩ := zbind hf
        refine gf_RX1_186 C hv11 dX1_putBarriers_48 ?_
        refine z_iconst C 1 dX1_putBarriers_51 (by decide) ?_
        refine z_iload_n C dX1_putBarriers_52 rfl 1 rfl ?_
        refine z_ishl C dX1_putBarriers_53 ?_
        refine z_ior C dX1_putBarriers_54 ?_
        obtain ⟨σ12, hσ12, hf⟩ := zbind hf
        refine gp_RX1_186 C hσ12 dX1_putBarriers_55 ?_
        refine z_aload_n C dX1_putBarriers_58 rfl 0 rfl ?_
        obtain ⟨v13, hv13, hf⟩ := zbind hf
        refine gf_RX1_37 C hv13 dX1_putBarriers_59 ?_
        obtain ⟨v14, hv14, hf⟩ := zbind hf
        refine gf_RX1_189 C hv14 dX1_putBarriers_62 ?_
        refine z_iload_n C dX1_putBarriers_65 rfl 1 rfl ?_
        refine z_aload_n C dX1_putBarriers_66 rfl 0 rfl ?_
        obtain ⟨v15, hv15, hf⟩ := zbind hf
        refine gf_RX1_15 C hv15 dX1_putBarriers_67 ?_
        refine z_iload_n C dX1_putBarriers_70 rfl 1 rfl ?_
        obtain ⟨v16, hv16, hf⟩ := zbind hf
        refine z_aI C hv16 dX1_putBarriers_71 ?_
        obtain ⟨σ17, hσ17, hf⟩ := zbind hf
        refine z_sI C hσ17 dX1_putBarriers_72 ?_
        refine z_iconst C 0 dX1_putBarriers_73 (by decide) ?_
        refine z_istore_n (lv2 := [(2, .int 0), (0, .ref x0), (1, .int x1)]) C dX1_putBarriers_74 rfl (by decide) rfl ?_
        obtain ⟨o25, ho25, hf⟩ := zbind hf
        refine z_sub [1, 2, 0] rfl ?_
        refine wsX1_putBarriers_75 C hRm _ _ zfuel (σ17, 0) o25 ho25 ?_
        intro z9 e9
        subst e9
        cases hf
        exact hq _ _ dX1_putBarriers_109
      · rw [if_neg q26] at hf
        cases hf
        exact hq _ _ dX1_putBarriers_42

theorem mX1_putBarriers (l : Launch) (D : va_G) (Ca : Nat → ClassId) (B : Nat) (En : State → Prop) (hE : zEk B En) (σ : zS) (N : Nat) (x0 : Nat) (x1 : Int32) (X : zS) (hf : fX1_putBarriers σ x0 x1 = some X) : zMv l D Ca B En yX1_putBarriers cX1_putBarriers 4 (Option.none : Option Jvm.ClassFile.FieldType) 2 41 [.ref x0, .int x1] σ N X () :=
  zMet_v (own := RX1) hE (by decide +kernel) rfl (Nat.le_of_ble_eq_true rfl) (fun p e s m args below meth c C hr hRm => wfX1_putBarriers C hRm σ x0 x1 X hf (fun pc lv hd => zfin_v (r := ()) C hr hd))
theorem dX9_numberOf_0 : decode cX9_numberOf 0 = .ok (.sipush 200, 3) := by decide +kernel
theorem dX9_numberOf_3 : decode cX9_numberOf 3 = .ok (.iload_n 0, 1) := by decide +kernel
theorem dX9_numberOf_4 : decode cX9_numberOf 4 = .ok (.imul, 1) := by decide +kernel
theorem dX9_numberOf_5 : decode cX9_numberOf 5 = .ok (.iload_n 1, 1) := by decide +kernel
theorem dX9_numberOf_6 : decode cX9_numberOf 6 = .ok (.iadd, 1) := by decide +kernel
theorem dX9_numberOf_7 : decode cX9_numberOf 7 = .ok (.ireturn, 1) := by decide +kernel
theorem hyX9_numberOf : yX9_numberOf.cls ≠ "java/lang/invoke/MethodHandle" ∧ yX9_numberOf.cls ≠ "java/lang/invoke/VarHandle" ∧ (parseMethodDescriptor yX9_numberOf.desc).map (fun d => d.parameters.length) = some 2 := ⟨by decide +kernel, by decide +kernel, by decide +kernel⟩
def fX9_numberOf (σ : zS) (x0 : Int32) (x1 : Int32) : Option (zS × Int32) :=
  some (σ, (200 * x0) + x1)
set_option maxRecDepth 100000 in
set_option maxHeartbeats 4000000 in
theorem wfX9_numberOf (C : zC p s m args meth c cX9_numberOf RX9 2 D Ca B En) (hRm : zRm R 0 0 cells slots) (σ : zS) (x0 : Int32) (x1 : Int32) (τ : zS) (r : Int32) (hf : fX9_numberOf σ x0 x1 = some (τ, r)) (hq : ∀ (pc : Nat) (lv : List (Nat × Value)), decode cX9_numberOf pc = .ok (.ireturn, 1) → zW p l e R s m args below meth c cells slots Q D Ca B 2 τ N pc lv [.int r]) : zW p l e R s m args below meth c cells slots Q D Ca B 2 σ N 0 [(0, .int x0), (1, .int x1)] [] := by
  unfold fX9_numberOf at hf
  refine z_sipush C 200 dX9_numberOf_0 (by decide) ?_
  refine z_iload_n C dX9_numberOf_3 rfl 0 rfl ?_
  refine z_imul C dX9_numberOf_4 ?_
  refine z_iload_n C dX9_numberOf_5 rfl 1 rfl ?_
  refine z_iadd C dX9_numberOf_6 ?_
  cases hf
  exact hq _ _ dX9_numberOf_7

theorem mX9_numberOf (l : Launch) (D : va_G) (Ca : Nat → ClassId) (B : Nat) (En : State → Prop) (hE : zEk B En) (σ : zS) (N : Nat) (x0 : Int32) (x1 : Int32) (X : zS × Int32) (hf : fX9_numberOf σ x0 x1 = some X) : zMi l D Ca B En yX9_numberOf cX9_numberOf 2 (Option.some Jvm.ClassFile.FieldType.int) 0 0 [.int x0, .int x1] σ N X.1 X.2 :=
  zMet_i (own := RX9) hE (by decide +kernel) rfl (Nat.le_of_ble_eq_true rfl) (fun p e s m args below meth c C hr hRm => wfX9_numberOf C hRm σ x0 x1 X.1 X.2 hf (fun pc lv hd => zfin_i C hr hd))
theorem dX1_sendRecord_0 : decode cX1_sendRecord 0 = .ok (.aload_n 0, 1) := by decide +kernel
theorem dX1_sendRecord_1 : decode cX1_sendRecord 1 = .ok (.getfield 15, 3) := by decide +kernel
theorem dX1_sendRecord_4 : decode cX1_sendRecord 4 = .ok (.iload_n 1, 1) := by decide +kernel
theorem dX1_sendRecord_5 : decode cX1_sendRecord 5 = .ok (.iaload, 1) := by decide +kernel
theorem dX1_sendRecord_6 : decode cX1_sendRecord 6 = .ok (.aload_n 0, 1) := by decide +kernel
theorem dX1_sendRecord_7 : decode cX1_sendRecord 7 = .ok (.getfield 54, 3) := by decide +kernel
theorem dX1_sendRecord_10 : decode cX1_sendRecord 10 = .ok (.getfield 197, 3) := by decide +kernel
theorem dX1_sendRecord_13 : decode cX1_sendRecord 13 = .ok (.iload_n 1, 1) := by decide +kernel
theorem dX1_sendRecord_14 : decode cX1_sendRecord 14 = .ok (.iaload, 1) := by decide +kernel
theorem dX1_sendRecord_15 : decode cX1_sendRecord 15 = .ok (.if_icmp .lt 4, 3) := by decide +kernel
theorem dX1_sendRecord_18 : decode cX1_sendRecord 18 = .ok (.return_, 1) := by decide +kernel
theorem dX1_sendRecord_19 : decode cX1_sendRecord 19 = .ok (.iload_n 1, 1) := by decide +kernel
theorem dX1_sendRecord_20 : decode cX1_sendRecord 20 = .ok (.aload_n 0, 1) := by decide +kernel
theorem dX1_sendRecord_21 : decode cX1_sendRecord 21 = .ok (.getfield 15, 3) := by decide +kernel
theorem dX1_sendRecord_24 : decode cX1_sendRecord 24 = .ok (.iload_n 1, 1) := by decide +kernel
theorem dX1_sendRecord_25 : decode cX1_sendRecord 25 = .ok (.iaload, 1) := by decide +kernel
theorem dX1_sendRecord_26 : decode cX1_sendRecord 26 = .ok (.invokestatic 200, 3) := by decide +kernel
theorem dX1_sendRecord_29 : decode cX1_sendRecord 29 = .ok (.istore_n 2, 1) := by decide +kernel
theorem dX1_sendRecord_30 : decode cX1_sendRecord 30 = .ok (.aload_n 0, 1) := by decide +kernel
theorem dX1_sendRecord_31 : decode cX1_sendRecord 31 = .ok (.getfield 54, 3) := by decide +kernel
theorem dX1_sendRecord_34 : decode cX1_sendRecord 34 = .ok (.iload_n 2, 1) := by decide +kernel
theorem dX1_sendRecord_35 : decode cX1_sendRecord 35 = .ok (.invokevirtual 203, 3) := by decide +kernel
theorem dX1_sendRecord_38 : decode cX1_sendRecord 38 = .ok (.aload_n 0, 1) := by decide +kernel
theorem dX1_sendRecord_39 : decode cX1_sendRecord 39 = .ok (.getfield 70, 3) := by decide +kernel
theorem dX1_sendRecord_42 : decode cX1_sendRecord 42 = .ok (.invokestatic 206, 3) := by decide +kernel
theorem dX1_sendRecord_45 : decode cX1_sendRecord 45 = .ok (.iload_n 1, 1) := by decide +kernel
theorem dX1_sendRecord_46 : decode cX1_sendRecord 46 = .ok (.invokestatic 190, 3) := by decide +kernel
theorem dX1_sendRecord_49 : decode cX1_sendRecord 49 = .ok (.istore_n 3, 1) := by decide +kernel
theorem dX1_sendRecord_50 : decode cX1_sendRecord 50 = .ok (.aload_n 0, 1) := by decide +kernel
theorem dX1_sendRecord_51 : decode cX1_sendRecord 51 = .ok (.getfield 30, 3) := by decide +kernel
theorem dX1_sendRecord_54 : decode cX1_sendRecord 54 = .ok (.iload_n 3, 1) := by decide +kernel
theorem dX1_sendRecord_55 : decode cX1_sendRecord 55 = .ok (.invokevirtual 194, 3) := by decide +kernel
theorem dX1_sendRecord_58 : decode cX1_sendRecord 58 = .ok (.aload_n 0, 1) := by decide +kernel
theorem dX1_sendRecord_59 : decode cX1_sendRecord 59 = .ok (.getfield 77, 3) := by decide +kernel
theorem dX1_sendRecord_62 : decode cX1_sendRecord 62 = .ok (.if_icmp .ge 32, 3) := by decide +kernel
theorem dX1_sendRecord_65 : decode cX1_sendRecord 65 = .ok (.aload_n 0, 1) := by decide +kernel
theorem dX1_sendRecord_66 : decode cX1_sendRecord 66 = .ok (.getfield 30, 3) := by decide +kernel
theorem dX1_sendRecord_69 : decode cX1_sendRecord 69 = .ok (.iload_n 3, 1) := by decide +kernel
theorem dX1_sendRecord_70 : decode cX1_sendRecord 70 = .ok (.iload_n 2, 1) := by decide +kernel
theorem dX1_sendRecord_71 : decode cX1_sendRecord 71 = .ok (.invokevirtual 209, 3) := by decide +kernel
theorem dX1_sendRecord_74 : decode cX1_sendRecord 74 = .ok (.aload_n 0, 1) := by decide +kernel
theorem dX1_sendRecord_75 : decode cX1_sendRecord 75 = .ok (.getfield 15, 3) := by decide +kernel
theorem dX1_sendRecord_78 : decode cX1_sendRecord 78 = .ok (.iload_n 1, 1) := by decide +kernel
theorem dX1_sendRecord_79 : decode cX1_sendRecord 79 = .ok (.dup2, 1) := by decide +kernel
theorem dX1_sendRecord_80 : decode cX1_sendRecord 80 = .ok (.iaload, 1) := by decide +kernel
theorem dX1_sendRecord_81 : decode cX1_sendRecord 81 = .ok (.iconst 1, 1) := by decide +kernel
theorem dX1_sendRecord_82 : decode cX1_sendRecord 82 = .ok (.iadd, 1) := by decide +kernel
theorem dX1_sendRecord_83 : decode cX1_sendRecord 83 = .ok (.iastore, 1) := by decide +kernel
theorem dX1_sendRecord_84 : decode cX1_sendRecord 84 = .ok (.aload_n 0, 1) := by decide +kernel
theorem dX1_sendRecord_85 : decode cX1_sendRecord 85 = .ok (.dup, 1) := by decide +kernel
theorem dX1_sendRecord_86 : decode cX1_sendRecord 86 = .ok (.getfield 102, 3) := by decide +kernel
theorem dX1_sendRecord_89 : decode cX1_sendRecord 89 = .ok (.iconst 1, 1) := by decide +kernel
theorem dX1_sendRecord_90 : decode cX1_sendRecord 90 = .ok (.iadd, 1) := by decide +kernel
theorem dX1_sendRecord_91 : decode cX1_sendRecord 91 = .ok (.putfield 102, 3) := by decide +kernel
theorem dX1_sendRecord_94 : decode cX1_sendRecord 94 = .ok (.return_, 1) := by decide +kernel
theorem hyX1_sendRecord : yX1_sendRecord.cls ≠ "java/lang/invoke/MethodHandle" ∧ yX1_sendRecord.cls ≠ "java/lang/invoke/VarHandle" ∧ (parseMethodDescriptor yX1_sendRecord.desc).map (fun d => d.parameters.length) = some 1 := ⟨by decide +kernel, by decide +kernel, by decide +kernel⟩
def fX1_sendRecord (σ : zS) (x0 : Nat) (x1 : Int32) : Option zS :=
  (zgR 1 10 σ x0).bind fun v1 => (zaI σ v1 x1).bind fun v2 => (zgR 1 17 σ x0).bind fun v3 => (zgR 7 2 σ v3).bind fun v4 => (zaI σ v4 x1).bind fun v5 => (if v2 < v5 then (zgR 1 10 σ x0).bind fun v6 => (zaI σ v6 x1).bind fun v7 => (fX9_numberOf σ x1 v7).bind fun c8 => (zgR 1 17 c8.1 x0).bind fun v9 => (zck 7 c8.1 v9 (fX7_keyOf c8.1 v9 c8.2)).bind fun c10 => (zgI 1 0 c10.1 x0).bind fun v11 => (fX9_ownerOf c10.1 c10.2 v11).bind fun c12 => (fX9_channel c12.1 c12.2 x1).bind fun c13 => (zgR 1 14 c13.1 x0).bind fun v14 => (zck 3 c13.1 v14 (fX3_sizeOf c13.1 v14 c13.2)).bind fun c15 => (zgI 1 1 c15.1 x0).bind fun v16 => (if v16 ≤ c15.2 then some c15.1 else (zgR 1 14 c15.1 x0).bind fun v17 => (zck 3 c15.1 v17 (fX3_add c15.1 v17 c13.2 c8.2)).bind fun c18 => (zgR 1 10 c18 x0).bind fun v19 => (zaI c18 v19 x1).bind fun v20 => (zsI c18 v19 x1 (v20 + 1)).bind fun σ21 => (zgI 1 8 σ21 x0).bind fun v22 => (zpI 1 8 σ21 x0 (v22 + 1)).bind fun σ23 => some σ23) else some σ)
set_option maxRecDepth 100000 in
set_option maxHeartbeats 4000000 in
theorem wfX1_sendRecord (C : zC p s m args meth c cX1_sendRecord RX1 4 D Ca B En) (hRm : zRm R 2 43 cells slots) (σ : zS) (x0 : Nat) (x1 : Int32) (τ : zS) (hf : fX1_sendRecord σ x0 x1 = some τ) (hq : ∀ (pc : Nat) (lv : List (Nat × Value)), decode cX1_sendRecord pc = .ok (.return_, 1) → zW p l e R s m args below meth c cells slots Q D Ca B 4 τ N pc lv []) : zW p l e R s m args below meth c cells slots Q D Ca B 4 σ N 0 [(0, .ref x0), (1, .int x1)] [] := by
  unfold fX1_sendRecord at hf
  refine z_aload_n C dX1_sendRecord_0 rfl 0 rfl ?_
  obtain ⟨v1, hv1, hf⟩ := zbind hf
  refine gf_RX1_15 C hv1 dX1_sendRecord_1 ?_
  refine z_iload_n C dX1_sendRecord_4 rfl 1 rfl ?_
  obtain ⟨v2, hv2, hf⟩ := zbind hf
  refine z_aI C hv2 dX1_sendRecord_5 ?_
  refine z_aload_n C dX1_sendRecord_6 rfl 0 rfl ?_
  obtain ⟨v3, hv3, hf⟩ := zbind hf
  refine gf_RX1_54 C hv3 dX1_sendRecord_7 ?_
  obtain ⟨v4, hv4, hf⟩ := zbind hf
  refine gf_RX1_197 C hv4 dX1_sendRecord_10 ?_
  refine z_iload_n C dX1_sendRecord_13 rfl 1 rfl ?_
  obtain ⟨v5, hv5, hf⟩ := zbind hf
  refine z_aI C hv5 dX1_sendRecord_14 ?_
  refine z_icmp_lt C 19 dX1_sendRecord_15 (by decide) (fun q25 => ?_) (fun q25 => ?_)
  · rw [if_pos q25] at hf
    refine z_iload_n C dX1_sendRecord_19 rfl 1 rfl ?_
    refine z_aload_n C dX1_sendRecord_20 rfl 0 rfl ?_
    obtain ⟨v6, hv6, hf⟩ := zbind hf
    refine gf_RX1_15 C hv6 dX1_sendRecord_21 ?_
    refine z_iload_n C dX1_sendRecord_24 rfl 1 rfl ?_
    obtain ⟨v7, hv7, hf⟩ := zbind hf
    refine z_aI C hv7 dX1_sendRecord_25 ?_
    obtain ⟨c8, hc8, hf⟩ := zbind hf
    refine z_callSNi (host := "BarrierFlow") (As := [.int x1, .int v7]) (F0 := 2) (L0 := 43) C (mX9_numberOf l D Ca B En C.2.2.2.2.2.2.2.1 σ N x1 v7 _ hc8) hRm kw_184 kw_1 (by decide) kw_183 hyX9_numberOf (Nat.le_of_ble_eq_true rfl) (Nat.le_of_ble_eq_true rfl) rfl rfl (Nat.le_of_ble_eq_true rfl) dX1_sendRecord_26 ?_
    refine z_istore_n (lv2 := [(2, .int c8.2), (0, .ref x0), (1, .int x1)]) C dX1_sendRecord_29 rfl (by decide) rfl ?_
    refine z_aload_n C dX1_sendRecord_30 rfl 1 rfl ?_
    obtain ⟨v9, hv9, hf⟩ := zbind hf
    refine gf_RX1_54 C hv9 dX1_sendRecord_31 ?_
    refine z_iload_n C dX1_sendRecord_34 rfl 0 rfl ?_
    obtain ⟨c10, hc10, hf⟩ := zbind hf
    obtain ⟨kc10, hc10⟩ := zck_ok hc10
    refine z_callVi (As := [.int c8.2]) (F0 := 2) (L0 := 43) C (mX7_keyOf l D Ca B En C.2.2.2.2.2.2.2.1 c8.1 N v9 c8.2 _ hc10) hRm kc10 rfl kw_755 kw_5 kw_752 kw_753 kw_754 hyX7_keyOf (Nat.le_of_ble_eq_true rfl) (Nat.le_of_ble_eq_true rfl) rfl rfl (Nat.le_of_ble_eq_true rfl) dX1_sendRecord_35 ?_
    refine z_aload_n C dX1_sendRecord_38 rfl 1 rfl ?_
    obtain ⟨v11, hv11, hf⟩ := zbind hf
    refine gf_RX1_70 C hv11 dX1_sendRecord_39 ?_
    obtain ⟨c12, hc12, hf⟩ := zbind hf
    refine z_callSNi (host := "BarrierFlow") (As := [.int c10.2, .int v11]) (F0 := 2) (L0 := 43) C (mX9_ownerOf l D Ca B En C.2.2.2.2.2.2.2.1 c10.1 N c10.2 v11 _ hc12) hRm kw_758 kw_1 (by decide) kw_757 hyX9_ownerOf (Nat.le_of_ble_eq_true rfl) (Nat.le_of_ble_eq_true rfl) rfl rfl (Nat.le_of_ble_eq_true rfl) dX1_sendRecord_42 ?_
    refine z_iload_n C dX1_sendRecord_45 rfl 2 rfl ?_
    obtain ⟨c13, hc13, hf⟩ := zbind hf
    refine z_callSNi (host := "BarrierFlow") (As := [.int c12.2, .int x1]) (F0 := 2) (L0 := 43) C (mX9_channel l D Ca B En C.2.2.2.2.2.2.2.1 c12.1 N c12.2 x1 _ hc13) hRm kw_686 kw_1 (by decide) kw_685 hyX9_channel (Nat.le_of_ble_eq_true rfl) (Nat.le_of_ble_eq_true rfl) rfl rfl (Nat.le_of_ble_eq_true rfl) dX1_sendRecord_46 ?_
    refine z_istore_n (lv2 := [(3, .int c13.2), (2, .int c8.2), (0, .ref x0), (1, .int x1)]) C dX1_sendRecord_49 rfl (by decide) rfl ?_
    refine z_aload_n C dX1_sendRecord_50 rfl 2 rfl ?_
    obtain ⟨v14, hv14, hf⟩ := zbind hf
    refine gf_RX1_30 C hv14 dX1_sendRecord_51 ?_
    refine z_iload_n C dX1_sendRecord_54 rfl 0 rfl ?_
    obtain ⟨c15, hc15, hf⟩ := zbind hf
    obtain ⟨kc15, hc15⟩ := zck_ok hc15
    refine z_callVi (As := [.int c13.2]) (F0 := 2) (L0 := 43) C (mX3_sizeOf l D Ca B En C.2.2.2.2.2.2.2.1 c13.1 N v14 c13.2 _ hc15) hRm kc15 rfl kw_342 kw_9 kw_339 kw_340 kw_341 hyX3_sizeOf (Nat.le_of_ble_eq_true rfl) (Nat.le_of_ble_eq_true rfl) rfl rfl (Nat.le_of_ble_eq_true rfl) dX1_sendRecord_55 ?_
    refine z_aload_n C dX1_sendRecord_58 rfl 2 rfl ?_
    obtain ⟨v16, hv16, hf⟩ := zbind hf
    refine gf_RX1_77 C hv16 dX1_sendRecord_59 ?_
    refine z_icmp_ge C 94 dX1_sendRecord_62 (by decide) (fun q24 => ?_) (fun q24 => ?_)
    · rw [if_pos q24] at hf
      cases hf
      exact hq _ _ dX1_sendRecord_94
    · rw [if_neg q24] at hf
      refine z_aload_n C dX1_sendRecord_65 rfl 2 rfl ?_
      obtain ⟨v17, hv17, hf⟩ := zbind hf
      refine gf_RX1_30 C hv17 dX1_sendRecord_66 ?_
      refine z_iload_n C dX1_sendRecord_69 rfl 0 rfl ?_
      refine z_iload_n C dX1_sendRecord_70 rfl 1 rfl ?_
      obtain ⟨c18, hc18, hf⟩ := zbind hf
      obtain ⟨kc18, hc18⟩ := zck_ok hc18
      refine z_callVv (As := [.int c13.2, .int c8.2]) (F0 := 2) (L0 := 43) C (mX3_add l D Ca B En C.2.2.2.2.2.2.2.1 c15.1 N v17 c13.2 c8.2 _ hc18) hRm kc18 rfl kw_346 kw_9 kw_343 kw_344 kw_345 hyX3_add (Nat.le_of_ble_eq_true rfl) (Nat.le_of_ble_eq_true rfl) rfl rfl (Nat.le_of_ble_eq_true rfl) dX1_sendRecord_71 ?_
      refine z_aload_n C dX1_sendRecord_74 rfl 2 rfl ?_
      obtain ⟨v19, hv19, hf⟩ := zbind hf
      refine gf_RX1_15 C hv19 dX1_sendRecord_75 ?_
      refine z_iload_n C dX1_sendRecord_78 rfl 3 rfl ?_
      refine z_dup2 C dX1_sendRecord_79 rfl rfl ?_
      obtain ⟨v20, hv20, hf⟩ := zbind hf
      refine z_aI C hv20 dX1_sendRecord_80 ?_
      refine z_iconst C 1 dX1_sendRecord_81 (by decide) ?_
      refine z_iadd C dX1_sendRecord_82 ?_
      obtain ⟨σ21, hσ21, hf⟩ := zbind hf
      refine z_sI C hσ21 dX1_sendRecord_83 ?_
      refine z_aload_n C dX1_sendRecord_84 rfl 2 rfl ?_
      refine z_dup C dX1_sendRecord_85 rfl ?_
      obtain ⟨v22, hv22, hf⟩ := zbind hf
      refine gf_RX1_102 C hv22 dX1_sendRecord_86 ?_
      refine z_iconst C 1 dX1_sendRecord_89 (by decide) ?_
      refine z_iadd C dX1_sendRecord_90 ?_
      obtain ⟨σ23, hσ23, hf⟩ := zbind hf
      refine gp_RX1_102 C hσ23 dX1_sendRecord_91 ?_
      cases hf
      exact hq _ _ dX1_sendRecord_94
  · rw [if_neg q25] at hf
    cases hf
    exact hq _ _ dX1_sendRecord_18

theorem mX1_sendRecord (l : Launch) (D : va_G) (Ca : Nat → ClassId) (B : Nat) (En : State → Prop) (hE : zEk B En) (σ : zS) (N : Nat) (x0 : Nat) (x1 : Int32) (X : zS) (hf : fX1_sendRecord σ x0 x1 = some X) : zMv l D Ca B En yX1_sendRecord cX1_sendRecord 4 (Option.none : Option Jvm.ClassFile.FieldType) 2 43 [.ref x0, .int x1] σ N X () :=
  zMet_v (own := RX1) hE (by decide +kernel) rfl (Nat.le_of_ble_eq_true rfl) (fun p e s m args below meth c C hr hRm => wfX1_sendRecord C hRm σ x0 x1 X hf (fun pc lv hd => zfin_v (r := ()) C hr hd))
theorem dX1_sendersTo_0 : decode cX1_sendersTo 0 = .ok (.iload_n 1, 1) := by decide +kernel
theorem dX1_sendersTo_1 : decode cX1_sendersTo 1 = .ok (.iconst 4, 1) := by decide +kernel
theorem dX1_sendersTo_2 : decode cX1_sendersTo 2 = .ok (.if_icmp .ge 13, 3) := by decide +kernel
theorem dX1_sendersTo_5 : decode cX1_sendersTo 5 = .ok (.aload_n 0, 1) := by decide +kernel
theorem dX1_sendersTo_6 : decode cX1_sendersTo 6 = .ok (.getfield 54, 3) := by decide +kernel
theorem dX1_sendersTo_9 : decode cX1_sendersTo 9 = .ok (.getfield 140, 3) := by decide +kernel
theorem dX1_sendersTo_12 : decode cX1_sendersTo 12 = .ok (.goto 7, 3) := by decide +kernel
theorem dX1_sendersTo_15 : decode cX1_sendersTo 15 = .ok (.aload_n 0, 1) := by decide +kernel
theorem dX1_sendersTo_16 : decode cX1_sendersTo 16 = .ok (.getfield 70, 3) := by decide +kernel
theorem dX1_sendersTo_19 : decode cX1_sendersTo 19 = .ok (.ireturn, 1) := by decide +kernel
theorem hyX1_sendersTo : yX1_sendersTo.cls ≠ "java/lang/invoke/MethodHandle" ∧ yX1_sendersTo.cls ≠ "java/lang/invoke/VarHandle" ∧ (parseMethodDescriptor yX1_sendersTo.desc).map (fun d => d.parameters.length) = some 1 := ⟨by decide +kernel, by decide +kernel, by decide +kernel⟩
def fX1_sendersTo (σ : zS) (x0 : Nat) (x1 : Int32) : Option (zS × Int32) :=
  (if 4 ≤ x1 then (zgI 1 0 σ x0).bind fun v1 => some (σ, v1) else (zgR 1 17 σ x0).bind fun v2 => (zgI 7 0 σ v2).bind fun v3 => some (σ, v3))
set_option maxRecDepth 100000 in
set_option maxHeartbeats 4000000 in
theorem wfX1_sendersTo (C : zC p s m args meth c cX1_sendersTo RX1 2 D Ca B En) (hRm : zRm R 0 0 cells slots) (σ : zS) (x0 : Nat) (x1 : Int32) (τ : zS) (r : Int32) (hf : fX1_sendersTo σ x0 x1 = some (τ, r)) (hq : ∀ (pc : Nat) (lv : List (Nat × Value)), decode cX1_sendersTo pc = .ok (.ireturn, 1) → zW p l e R s m args below meth c cells slots Q D Ca B 2 τ N pc lv [.int r]) : zW p l e R s m args below meth c cells slots Q D Ca B 2 σ N 0 [(0, .ref x0), (1, .int x1)] [] := by
  unfold fX1_sendersTo at hf
  refine z_iload_n C dX1_sendersTo_0 rfl 1 rfl ?_
  refine z_iconst C 4 dX1_sendersTo_1 (by decide) ?_
  refine z_icmp_ge C 15 dX1_sendersTo_2 (by decide) (fun q4 => ?_) (fun q4 => ?_)
  · rw [if_pos q4] at hf
    refine z_aload_n C dX1_sendersTo_15 rfl 0 rfl ?_
    obtain ⟨v1, hv1, hf⟩ := zbind hf
    refine gf_RX1_70 C hv1 dX1_sendersTo_16 ?_
    cases hf
    exact hq _ _ dX1_sendersTo_19
  · rw [if_neg q4] at hf
    refine z_aload_n C dX1_sendersTo_5 rfl 0 rfl ?_
    obtain ⟨v2, hv2, hf⟩ := zbind hf
    refine gf_RX1_54 C hv2 dX1_sendersTo_6 ?_
    obtain ⟨v3, hv3, hf⟩ := zbind hf
    refine gf_RX1_140 C hv3 dX1_sendersTo_9 ?_
    refine z_goto C 19 dX1_sendersTo_12 (by decide) ?_
    cases hf
    exact hq _ _ dX1_sendersTo_19

theorem mX1_sendersTo (l : Launch) (D : va_G) (Ca : Nat → ClassId) (B : Nat) (En : State → Prop) (hE : zEk B En) (σ : zS) (N : Nat) (x0 : Nat) (x1 : Int32) (X : zS × Int32) (hf : fX1_sendersTo σ x0 x1 = some X) : zMi l D Ca B En yX1_sendersTo cX1_sendersTo 2 (Option.some Jvm.ClassFile.FieldType.int) 0 0 [.ref x0, .int x1] σ N X.1 X.2 :=
  zMet_i (own := RX1) hE (by decide +kernel) rfl (Nat.le_of_ble_eq_true rfl) (fun p e s m args below meth c C hr hRm => wfX1_sendersTo C hRm σ x0 x1 X.1 X.2 hf (fun pc lv hd => zfin_i C hr hd))
theorem dX1_cut_0 : decode cX1_cut 0 = .ok (.iload_n 1, 1) := by decide +kernel
theorem dX1_cut_1 : decode cX1_cut 1 = .ok (.iconst 4, 1) := by decide +kernel
theorem dX1_cut_2 : decode cX1_cut 2 = .ok (.if_icmp .lt 23, 3) := by decide +kernel
theorem dX1_cut_5 : decode cX1_cut 5 = .ok (.iload_n 1, 1) := by decide +kernel
theorem dX1_cut_6 : decode cX1_cut 6 = .ok (.iconst 4, 1) := by decide +kernel
theorem dX1_cut_7 : decode cX1_cut 7 = .ok (.isub, 1) := by decide +kernel
theorem dX1_cut_8 : decode cX1_cut 8 = .ok (.istore_n 2, 1) := by decide +kernel
theorem dX1_cut_9 : decode cX1_cut 9 = .ok (.aload_n 0, 1) := by decide +kernel
theorem dX1_cut_10 : decode cX1_cut 10 = .ok (.getfield 30, 3) := by decide +kernel
theorem dX1_cut_13 : decode cX1_cut 13 = .ok (.bipush 24, 2) := by decide +kernel
theorem dX1_cut_15 : decode cX1_cut 15 = .ok (.iload_n 2, 1) := by decide +kernel
theorem dX1_cut_16 : decode cX1_cut 16 = .ok (.iadd, 1) := by decide +kernel
theorem dX1_cut_17 : decode cX1_cut 17 = .ok (.bipush 26, 2) := by decide +kernel
theorem dX1_cut_19 : decode cX1_cut 19 = .ok (.iload_n 2, 1) := by decide +kernel
theorem dX1_cut_20 : decode cX1_cut 20 = .ok (.iadd, 1) := by decide +kernel
theorem dX1_cut_21 : decode cX1_cut 21 = .ok (.invokevirtual 176, 3) := by decide +kernel
theorem dX1_cut_24 : decode cX1_cut 24 = .ok (.return_, 1) := by decide +kernel
theorem dX1_cut_25 : decode cX1_cut 25 = .ok (.iconst 0, 1) := by decide +kernel
theorem dX1_cut_26 : decode cX1_cut 26 = .ok (.istore_n 2, 1) := by decide +kernel
theorem dX1_cut_27 : decode cX1_cut 27 = .ok (.iload_n 2, 1) := by decide +kernel
theorem dX1_cut_28 : decode cX1_cut 28 = .ok (.bipush 16, 2) := by decide +kernel
theorem dX1_cut_30 : decode cX1_cut 30 = .ok (.if_icmp .ge 36, 3) := by decide +kernel
theorem dX1_cut_33 : decode cX1_cut 33 = .ok (.iload_n 2, 1) := by decide +kernel
theorem dX1_cut_34 : decode cX1_cut 34 = .ok (.aload_n 0, 1) := by decide +kernel
theorem dX1_cut_35 : decode cX1_cut 35 = .ok (.getfield 70, 3) := by decide +kernel
theorem dX1_cut_38 : decode cX1_cut 38 = .ok (.invokestatic 206, 3) := by decide +kernel
theorem dX1_cut_41 : decode cX1_cut 41 = .ok (.iload_n 1, 1) := by decide +kernel
theorem dX1_cut_42 : decode cX1_cut 42 = .ok (.if_icmp .ne 18, 3) := by decide +kernel
theorem dX1_cut_45 : decode cX1_cut 45 = .ok (.aload_n 0, 1) := by decide +kernel
theorem dX1_cut_46 : decode cX1_cut 46 = .ok (.getfield 37, 3) := by decide +kernel
theorem dX1_cut_49 : decode cX1_cut 49 = .ok (.getfield 273, 3) := by decide +kernel
theorem dX1_cut_52 : decode cX1_cut 52 = .ok (.iload_n 2, 1) := by decide +kernel
theorem dX1_cut_53 : decode cX1_cut 53 = .ok (.aload_n 0, 1) := by decide +kernel
theorem dX1_cut_54 : decode cX1_cut 54 = .ok (.getfield 18, 3) := by decide +kernel
theorem dX1_cut_57 : decode cX1_cut 57 = .ok (.iload_n 2, 1) := by decide +kernel
theorem dX1_cut_58 : decode cX1_cut 58 = .ok (.iaload, 1) := by decide +kernel
theorem dX1_cut_59 : decode cX1_cut 59 = .ok (.iastore, 1) := by decide +kernel
theorem dX1_cut_60 : decode cX1_cut 60 = .ok (.iinc 2 1, 3) := by decide +kernel
theorem dX1_cut_63 : decode cX1_cut 63 = .ok (.goto (-36), 3) := by decide +kernel
theorem dX1_cut_66 : decode cX1_cut 66 = .ok (.iconst 0, 1) := by decide +kernel
theorem dX1_cut_67 : decode cX1_cut 67 = .ok (.istore_n 2, 1) := by decide +kernel
theorem dX1_cut_68 : decode cX1_cut 68 = .ok (.iload_n 2, 1) := by decide +kernel
theorem dX1_cut_69 : decode cX1_cut 69 = .ok (.aload_n 0, 1) := by decide +kernel
theorem dX1_cut_70 : decode cX1_cut 70 = .ok (.getfield 54, 3) := by decide +kernel
theorem dX1_cut_73 : decode cX1_cut 73 = .ok (.getfield 161, 3) := by decide +kernel
theorem dX1_cut_76 : decode cX1_cut 76 = .ok (.if_icmp .ge 31, 3) := by decide +kernel
theorem dX1_cut_79 : decode cX1_cut 79 = .ok (.iconst 4, 1) := by decide +kernel
theorem dX1_cut_80 : decode cX1_cut 80 = .ok (.iload_n 2, 1) := by decide +kernel
theorem dX1_cut_81 : decode cX1_cut 81 = .ok (.iadd, 1) := by decide +kernel
theorem dX1_cut_82 : decode cX1_cut 82 = .ok (.iload_n 1, 1) := by decide +kernel
theorem dX1_cut_83 : decode cX1_cut 83 = .ok (.invokestatic 190, 3) := by decide +kernel
theorem dX1_cut_86 : decode cX1_cut 86 = .ok (.istore_n 3, 1) := by decide +kernel
theorem dX1_cut_87 : decode cX1_cut 87 = .ok (.aload_n 0, 1) := by decide +kernel
theorem dX1_cut_88 : decode cX1_cut 88 = .ok (.getfield 47, 3) := by decide +kernel
theorem dX1_cut_91 : decode cX1_cut 91 = .ok (.iload_n 3, 1) := by decide +kernel
theorem dX1_cut_92 : decode cX1_cut 92 = .ok (.aload_n 0, 1) := by decide +kernel
theorem dX1_cut_93 : decode cX1_cut 93 = .ok (.getfield 30, 3) := by decide +kernel
theorem dX1_cut_96 : decode cX1_cut 96 = .ok (.iload_n 3, 1) := by decide +kernel
theorem dX1_cut_97 : decode cX1_cut 97 = .ok (.invokevirtual 194, 3) := by decide +kernel
theorem dX1_cut_100 : decode cX1_cut 100 = .ok (.iastore, 1) := by decide +kernel
theorem dX1_cut_101 : decode cX1_cut 101 = .ok (.iinc 2 1, 3) := by decide +kernel
theorem dX1_cut_104 : decode cX1_cut 104 = .ok (.goto (-36), 3) := by decide +kernel
theorem dX1_cut_107 : decode cX1_cut 107 = .ok (.return_, 1) := by decide +kernel
theorem hyX1_cut : yX1_cut.cls ≠ "java/lang/invoke/MethodHandle" ∧ yX1_cut.cls ≠ "java/lang/invoke/VarHandle" ∧ (parseMethodDescriptor yX1_cut.desc).map (fun d => d.parameters.length) = some 1 := ⟨by decide +kernel, by decide +kernel, by decide +kernel⟩
def jX1_cut_60_L27 (σ : zS) (x0 : Nat) (x1 : Int32) (x2 : Int32)  : Option ((zS × Int32) ⊕ zS) :=
  some (.inl (σ, x2 + 1))
set_option maxRecDepth 100000 in
set_option maxHeartbeats 4000000 in
theorem wjX1_cut_60_L27 (C : zC p s m args meth c cX1_cut RX1 4 D Ca B En) (hRm : zRm R 2 44 cells slots) (σ : zS) (x0 : Nat) (x1 : Int32) (x2 : Int32)  (y : (zS × Int32) ⊕ zS) (hf : jX1_cut_60_L27 σ x0 x1 x2  = some y) (hk : (∀ z : (zS × Int32), y = .inl z → zW p l e R s m args below meth c cells slots Q D Ca B 4 z.1 N 27 [(0, .ref x0), (1, .int x1), (2, .int z.2)] []) ∧ (∀ z : zS, y = .inr z → zW p l e R s m args below meth c cells slots Q D Ca B 4 z N 66 [(0, .ref x0), (1, .int x1)] [])) : zW p l e R s m args below meth c cells slots Q D Ca B 4 σ N 60 [(0, .ref x0), (1, .int x1), (2, .int x2)] [] := by
  unfold jX1_cut_60_L27 at hf
  refine z_iinc (lv2 := [(2, .int (x2 + 1)), (0, .ref x0), (1, .int x1)]) C (x2 + 1) dX1_cut_60 2 rfl rfl (by decide) rfl ?_
  refine z_goto C 27 dX1_cut_63 (by decide) ?_
  cases hf
  refine z_sub [1, 2, 0] rfl ?_
  exact hk.1 _ rfl

def sX1_cut_27b (x0 : Nat) (x1 : Int32) (σ : zS) (u2 : Int32) : Option ((zS × Int32) ⊕ zS) :=
  (if 16 ≤ u2 then some (.inr σ) else (zgI 1 0 σ x0).bind fun v1 => (fX9_ownerOf σ u2 v1).bind fun c2 => (if c2.2 = x1 then (zgR 1 15 c2.1 x0).bind fun v3 => (zgR 0 9 c2.1 v3).bind fun v4 => (zgR 1 11 c2.1 x0).bind fun v5 => (zaI c2.1 v5 u2).bind fun v6 => (zsI c2.1 v4 u2 v6).bind fun σ7 => jX1_cut_60_L27 σ7 x0 x1 u2 else jX1_cut_60_L27 c2.1 x0 x1 u2))
def sX1_cut_27 (x0 : Nat) (x1 : Int32) (z : (zS × Int32)) : Option ((zS × Int32) ⊕ zS) := sX1_cut_27b x0 x1 z.1 z.2
set_option maxRecDepth 100000 in
set_option maxHeartbeats 4000000 in
theorem wsX1_cut_27b (C : zC p s m args meth c cX1_cut RX1 4 D Ca B En) (hRm : zRm R 2 44 cells slots) (x0 : Nat) (x1 : Int32) (σ : zS) (u2 : Int32) (y : (zS × Int32) ⊕ zS) (hf : sX1_cut_27b x0 x1 σ u2 = some y) (hk : (∀ z : (zS × Int32), y = .inl z → zW p l e R s m args below meth c cells slots Q D Ca B 4 z.1 N 27 [(0, .ref x0), (1, .int x1), (2, .int z.2)] []) ∧ (∀ z : zS, y = .inr z → zW p l e R s m args below meth c cells slots Q D Ca B 4 z N 66 [(0, .ref x0), (1, .int x1)] [])) : zW p l e R s m args below meth c cells slots Q D Ca B 4 σ N 27 [(0, .ref x0), (1, .int x1), (2, .int u2)] [] := by
  unfold sX1_cut_27b at hf
  refine z_iload_n C dX1_cut_27 rfl 2 rfl ?_
  refine z_bipush C 16 dX1_cut_28 (by decide) ?_
  refine z_icmp_ge C 66 dX1_cut_30 (by decide) (fun q9 => ?_) (fun q9 => ?_)
  · rw [if_pos q9] at hf
    cases hf
    refine z_sub [0, 1] rfl ?_
    exact hk.2 _ rfl
  · rw [if_neg q9] at hf
    refine z_iload_n C dX1_cut_33 rfl 2 rfl ?_
    refine z_aload_n C dX1_cut_34 rfl 0 rfl ?_
    obtain ⟨v1, hv1, hf⟩ := zbind hf
    refine gf_RX1_70 C hv1 dX1_cut_35 ?_
    obtain ⟨c2, hc2, hf⟩ := zbind hf
    refine z_callSNi (host := "BarrierFlow") (As := [.int u2, .int v1]) (F0 := 2) (L0 := 44) C (mX9_ownerOf l D Ca B En C.2.2.2.2.2.2.2.1 σ N u2 v1 _ hc2) hRm kw_758 kw_1 (by decide) kw_757 hyX9_ownerOf (Nat.le_of_ble_eq_true rfl) (Nat.le_of_ble_eq_true rfl) rfl rfl (Nat.le_of_ble_eq_true rfl) dX1_cut_38 ?_
    refine z_iload_n C dX1_cut_41 rfl 1 rfl ?_
    refine z_icmp_ne C 60 dX1_cut_42 (by decide) (fun q8 => ?_) (fun q8 => ?_)
    · rw [if_neg q8] at hf
      refine z_sub [0, 1, 2] rfl ?_
      exact wjX1_cut_60_L27 C hRm _ _ _ _  _ hf hk
    · rw [if_pos q8] at hf
      refine z_aload_n C dX1_cut_45 rfl 0 rfl ?_
      obtain ⟨v3, hv3, hf⟩ := zbind hf
      refine gf_RX1_37 C hv3 dX1_cut_46 ?_
      obtain ⟨v4, hv4, hf⟩ := zbind hf
      refine gf_RX1_273 C hv4 dX1_cut_49 ?_
      refine z_iload_n C dX1_cut_52 rfl 2 rfl ?_
      refine z_aload_n C dX1_cut_53 rfl 0 rfl ?_
      obtain ⟨v5, hv5, hf⟩ := zbind hf
      refine gf_RX1_18 C hv5 dX1_cut_54 ?_
      refine z_iload_n C dX1_cut_57 rfl 2 rfl ?_
      obtain ⟨v6, hv6, hf⟩ := zbind hf
      refine z_aI C hv6 dX1_cut_58 ?_
      obtain ⟨σ7, hσ7, hf⟩ := zbind hf
      refine z_sI C hσ7 dX1_cut_59 ?_
      refine z_sub [0, 1, 2] rfl ?_
      exact wjX1_cut_60_L27 C hRm _ _ _ _  _ hf hk

theorem wsX1_cut_27 (C : zC p s m args meth c cX1_cut RX1 4 D Ca B En) (hRm : zRm R 2 44 cells slots) (x0 : Nat) (x1 : Int32) (n : Nat) (z : (zS × Int32)) (x : zS) (hf : zloop (sX1_cut_27 x0 x1) n z = some x) (hk : (∀ o : zS, x = o → zW p l e R s m args below meth c cells slots Q D Ca B 4 o N 66 [(0, .ref x0), (1, .int x1)] [])) : zW p l e R s m args below meth c cells slots Q D Ca B 4 z.1 N 27 [(0, .ref x0), (1, .int x1), (2, .int z.2)] [] := by
  refine zloop_W (P := fun z : (zS × Int32) => zW p l e R s m args below meth c cells slots Q D Ca B 4 z.1 N 27 [(0, .ref x0), (1, .int x1), (2, .int z.2)] []) (K := fun x : zS => (∀ o : zS, x = o → zW p l e R s m args below meth c cells slots Q D Ca B 4 o N 66 [(0, .ref x0), (1, .int x1)] [])) ?_ n z x hf hk
  intro z y hy h1 h2
  refine wsX1_cut_27b C hRm x0 x1 z.1 z.2 y hy ⟨fun z2 e => h1 z2 e, fun o e => (h2 _ e) o rfl⟩
def sX1_cut_68b (x0 : Nat) (x1 : Int32) (σ : zS) (u2 : Int32) : Option ((zS × Int32) ⊕ zS) :=
  (zgR 1 17 σ x0).bind fun v11 => (zgI 7 1 σ v11).bind fun v12 => (if v12 ≤ u2 then some (.inr σ) else (fX9_channel σ (4 + u2) x1).bind fun c13 => (zgR 1 19 c13.1 x0).bind fun v14 => (zgR 1 14 c13.1 x0).bind fun v15 => (zck 3 c13.1 v15 (fX3_sizeOf c13.1 v15 c13.2)).bind fun c16 => (zsI c16.1 v14 c13.2 c16.2).bind fun σ17 => some (.inl (σ17, u2 + 1)))
def sX1_cut_68 (x0 : Nat) (x1 : Int32) (z : (zS × Int32)) : Option ((zS × Int32) ⊕ zS) := sX1_cut_68b x0 x1 z.1 z.2
set_option maxRecDepth 100000 in
set_option maxHeartbeats 4000000 in
theorem wsX1_cut_68b (C : zC p s m args meth c cX1_cut RX1 4 D Ca B En) (hRm : zRm R 2 44 cells slots) (x0 : Nat) (x1 : Int32) (σ : zS) (u2 : Int32) (y : (zS × Int32) ⊕ zS) (hf : sX1_cut_68b x0 x1 σ u2 = some y) (hk : (∀ z : (zS × Int32), y = .inl z → zW p l e R s m args below meth c cells slots Q D Ca B 4 z.1 N 68 [(0, .ref x0), (1, .int x1), (2, .int z.2)] []) ∧ (∀ z : zS, y = .inr z → zW p l e R s m args below meth c cells slots Q D Ca B 4 z N 107 [] [])) : zW p l e R s m args below meth c cells slots Q D Ca B 4 σ N 68 [(0, .ref x0), (1, .int x1), (2, .int u2)] [] := by
  unfold sX1_cut_68b at hf
  refine z_iload_n C dX1_cut_68 rfl 2 rfl ?_
  refine z_aload_n C dX1_cut_69 rfl 0 rfl ?_
  obtain ⟨v11, hv11, hf⟩ := zbind hf
  refine gf_RX1_54 C hv11 dX1_cut_70 ?_
  obtain ⟨v12, hv12, hf⟩ := zbind hf
  refine gf_RX1_161 C hv12 dX1_cut_73 ?_
  refine z_icmp_ge C 107 dX1_cut_76 (by decide) (fun q18 => ?_) (fun q18 => ?_)
  · rw [if_pos q18] at hf
    cases hf
    refine z_sub [] rfl ?_
    exact hk.2 _ rfl
  · rw [if_neg q18] at hf
    refine z_iconst C 4 dX1_cut_79 (by decide) ?_
    refine z_iload_n C dX1_cut_80 rfl 2 rfl ?_
    refine z_iadd C dX1_cut_81 ?_
    refine z_iload_n C dX1_cut_82 rfl 1 rfl ?_
    obtain ⟨c13, hc13, hf⟩ := zbind hf
    refine z_callSNi (host := "BarrierFlow") (As := [.int (4 + u2), .int x1]) (F0 := 2) (L0 := 44) C (mX9_channel l D Ca B En C.2.2.2.2.2.2.2.1 σ N (4 + u2) x1 _ hc13) hRm kw_686 kw_1 (by decide) kw_685 hyX9_channel (Nat.le_of_ble_eq_true rfl) (Nat.le_of_ble_eq_true rfl) rfl rfl (Nat.le_of_ble_eq_true rfl) dX1_cut_83 ?_
    refine z_istore_n (lv2 := [(3, .int c13.2), (0, .ref x0), (1, .int x1), (2, .int u2)]) C dX1_cut_86 rfl (by decide) rfl ?_
    refine z_aload_n C dX1_cut_87 rfl 1 rfl ?_
    obtain ⟨v14, hv14, hf⟩ := zbind hf
    refine gf_RX1_47 C hv14 dX1_cut_88 ?_
    refine z_iload_n C dX1_cut_91 rfl 0 rfl ?_
    refine z_aload_n C dX1_cut_92 rfl 1 rfl ?_
    obtain ⟨v15, hv15, hf⟩ := zbind hf
    refine gf_RX1_30 C hv15 dX1_cut_93 ?_
    refine z_iload_n C dX1_cut_96 rfl 0 rfl ?_
    obtain ⟨c16, hc16, hf⟩ := zbind hf
    obtain ⟨kc16, hc16⟩ := zck_ok hc16
    refine z_callVi (As := [.int c13.2]) (F0 := 2) (L0 := 44) C (mX3_sizeOf l D Ca B En C.2.2.2.2.2.2.2.1 c13.1 N v15 c13.2 _ hc16) hRm kc16 rfl kw_342 kw_9 kw_339 kw_340 kw_341 hyX3_sizeOf (Nat.le_of_ble_eq_true rfl) (Nat.le_of_ble_eq_true rfl) rfl rfl (Nat.le_of_ble_eq_true rfl) dX1_cut_97 ?_
    obtain ⟨σ17, hσ17, hf⟩ := zbind hf
    refine z_sI C hσ17 dX1_cut_100 ?_
    refine z_iinc (lv2 := [(2, .int (u2 + 1)), (3, .int c13.2), (0, .ref x0), (1, .int x1)]) C (u2 + 1) dX1_cut_101 3 rfl rfl (by decide) rfl ?_
    refine z_goto C 68 dX1_cut_104 (by decide) ?_
    cases hf
    refine z_sub [2, 3, 0] rfl ?_
    exact hk.1 _ rfl

theorem wsX1_cut_68 (C : zC p s m args meth c cX1_cut RX1 4 D Ca B En) (hRm : zRm R 2 44 cells slots) (x0 : Nat) (x1 : Int32) (n : Nat) (z : (zS × Int32)) (x : zS) (hf : zloop (sX1_cut_68 x0 x1) n z = some x) (hk : (∀ o : zS, x = o → zW p l e R s m args below meth c cells slots Q D Ca B 4 o N 107 [] [])) : zW p l e R s m args below meth c cells slots Q D Ca B 4 z.1 N 68 [(0, .ref x0), (1, .int x1), (2, .int z.2)] [] := by
  refine zloop_W (P := fun z : (zS × Int32) => zW p l e R s m args below meth c cells slots Q D Ca B 4 z.1 N 68 [(0, .ref x0), (1, .int x1), (2, .int z.2)] []) (K := fun x : zS => (∀ o : zS, x = o → zW p l e R s m args below meth c cells slots Q D Ca B 4 o N 107 [] [])) ?_ n z x hf hk
  intro z y hy h1 h2
  refine wsX1_cut_68b C hRm x0 x1 z.1 z.2 y hy ⟨fun z2 e => h1 z2 e, fun o e => (h2 _ e) o rfl⟩
def fX1_cut (σ : zS) (x0 : Nat) (x1 : Int32) : Option zS :=
  (if x1 < 4 then (zloop (sX1_cut_27 x0 x1) zfuel (σ, 0)).bind fun o10 => (zloop (sX1_cut_68 x0 x1) zfuel (o10, 0)).bind fun o19 => some o19 else (zgR 1 14 σ x0).bind fun v20 => (zck 3 σ v20 (fX3_moveAll σ v20 (24 + (x1 - 4)) (26 + (x1 - 4)))).bind fun c21 => some c21)
set_option maxRecDepth 100000 in
set_option maxHeartbeats 4000000 in
theorem wfX1_cut (C : zC p s m args meth c cX1_cut RX1 4 D Ca B En) (hRm : zRm R 2 44 cells slots) (σ : zS) (x0 : Nat) (x1 : Int32) (τ : zS) (hf : fX1_cut σ x0 x1 = some τ) (hq : ∀ (pc : Nat) (lv : List (Nat × Value)), decode cX1_cut pc = .ok (.return_, 1) → zW p l e R s m args below meth c cells slots Q D Ca B 4 τ N pc lv []) : zW p l e R s m args below meth c cells slots Q D Ca B 4 σ N 0 [(0, .ref x0), (1, .int x1)] [] := by
  unfold fX1_cut at hf
  refine z_iload_n C dX1_cut_0 rfl 1 rfl ?_
  refine z_iconst C 4 dX1_cut_1 (by decide) ?_
  refine z_icmp_lt C 25 dX1_cut_2 (by decide) (fun q22 => ?_) (fun q22 => ?_)
  · rw [if_pos q22] at hf
    refine z_iconst C 0 dX1_cut_25 (by decide) ?_
    refine z_istore_n (lv2 := [(2, .int 0), (0, .ref x0), (1, .int x1)]) C dX1_cut_26 rfl (by decide) rfl ?_
    obtain ⟨o10, ho10, hf⟩ := zbind hf
    refine z_sub [1, 2, 0] rfl ?_
    refine wsX1_cut_27 C hRm _ _ zfuel (σ, 0) o10 ho10 ?_
    intro z9 e9
    subst e9
    refine z_iconst C 0 dX1_cut_66 (by decide) ?_
    refine z_istore_n (lv2 := [(2, .int 0), (0, .ref x0), (1, .int x1)]) C dX1_cut_67 rfl (by decide) rfl ?_
    obtain ⟨o19, ho19, hf⟩ := zbind hf
    refine z_sub [1, 2, 0] rfl ?_
    refine wsX1_cut_68 C hRm _ _ zfuel (o10, 0) o19 ho19 ?_
    intro z9 e9
    subst e9
    cases hf
    exact hq _ _ dX1_cut_107
  · rw [if_neg q22] at hf
    refine z_iload_n C dX1_cut_5 rfl 1 rfl ?_
    refine z_iconst C 4 dX1_cut_6 (by decide) ?_
    refine z_isub C dX1_cut_7 ?_
    refine z_istore_n (lv2 := [(2, .int (x1 - 4)), (0, .ref x0), (1, .int x1)]) C dX1_cut_8 rfl (by decide) rfl ?_
    refine z_aload_n C dX1_cut_9 rfl 1 rfl ?_
    obtain ⟨v20, hv20, hf⟩ := zbind hf
    refine gf_RX1_30 C hv20 dX1_cut_10 ?_
    refine z_bipush C 24 dX1_cut_13 (by decide) ?_
    refine z_iload_n C dX1_cut_15 rfl 0 rfl ?_
    refine z_iadd C dX1_cut_16 ?_
    refine z_bipush C 26 dX1_cut_17 (by decide) ?_
    refine z_iload_n C dX1_cut_19 rfl 0 rfl ?_
    refine z_iadd C dX1_cut_20 ?_
    obtain ⟨c21, hc21, hf⟩ := zbind hf
    obtain ⟨kc21, hc21⟩ := zck_ok hc21
    refine z_callVv (As := [.int (24 + (x1 - 4)), .int (26 + (x1 - 4))]) (F0 := 2) (L0 := 44) C (mX3_moveAll l D Ca B En C.2.2.2.2.2.2.2.1 σ N v20 (24 + (x1 - 4)) (26 + (x1 - 4)) _ hc21) hRm kc21 rfl kw_322 kw_9 kw_319 kw_320 kw_321 hyX3_moveAll (Nat.le_of_ble_eq_true rfl) (Nat.le_of_ble_eq_true rfl) rfl rfl (Nat.le_of_ble_eq_true rfl) dX1_cut_21 ?_
    cases hf
    exact hq _ _ dX1_cut_24

theorem mX1_cut (l : Launch) (D : va_G) (Ca : Nat → ClassId) (B : Nat) (En : State → Prop) (hE : zEk B En) (σ : zS) (N : Nat) (x0 : Nat) (x1 : Int32) (X : zS) (hf : fX1_cut σ x0 x1 = some X) : zMv l D Ca B En yX1_cut cX1_cut 4 (Option.none : Option Jvm.ClassFile.FieldType) 2 44 [.ref x0, .int x1] σ N X () :=
  zMet_v (own := RX1) hE (by decide +kernel) rfl (Nat.le_of_ble_eq_true rfl) (fun p e s m args below meth c C hr hRm => wfX1_cut C hRm σ x0 x1 X hf (fun pc lv hd => zfin_v (r := ()) C hr hd))
theorem dX1_keepFirst_0 : decode cX1_keepFirst 0 = .ok (.aload_n 0, 1) := by decide +kernel
theorem dX1_keepFirst_1 : decode cX1_keepFirst 1 = .ok (.getfield 37, 3) := by decide +kernel
theorem dX1_keepFirst_4 : decode cX1_keepFirst 4 = .ok (.dup, 1) := by decide +kernel
theorem dX1_keepFirst_5 : decode cX1_keepFirst 5 = .ok (.getfield 264, 3) := by decide +kernel
theorem dX1_keepFirst_8 : decode cX1_keepFirst 8 = .ok (.iload_n 2, 1) := by decide +kernel
theorem dX1_keepFirst_9 : decode cX1_keepFirst 9 = .ok (.iadd, 1) := by decide +kernel
theorem dX1_keepFirst_10 : decode cX1_keepFirst 10 = .ok (.putfield 264, 3) := by decide +kernel
theorem dX1_keepFirst_13 : decode cX1_keepFirst 13 = .ok (.aload_n 0, 1) := by decide +kernel
theorem dX1_keepFirst_14 : decode cX1_keepFirst 14 = .ok (.getfield 30, 3) := by decide +kernel
theorem dX1_keepFirst_17 : decode cX1_keepFirst 17 = .ok (.iload_n 1, 1) := by decide +kernel
theorem dX1_keepFirst_18 : decode cX1_keepFirst 18 = .ok (.invokevirtual 225, 3) := by decide +kernel
theorem dX1_keepFirst_21 : decode cX1_keepFirst 21 = .ok (.istore_n 3, 1) := by decide +kernel
theorem dX1_keepFirst_22 : decode cX1_keepFirst 22 = .ok (.iconst 0, 1) := by decide +kernel
theorem dX1_keepFirst_23 : decode cX1_keepFirst 23 = .ok (.istore 4, 2) := by decide +kernel
theorem dX1_keepFirst_25 : decode cX1_keepFirst 25 = .ok (.iload 4, 2) := by decide +kernel
theorem dX1_keepFirst_27 : decode cX1_keepFirst 27 = .ok (.iload_n 2, 1) := by decide +kernel
theorem dX1_keepFirst_28 : decode cX1_keepFirst 28 = .ok (.if_icmp .ge 30, 3) := by decide +kernel
theorem dX1_keepFirst_31 : decode cX1_keepFirst 31 = .ok (.aload_n 0, 1) := by decide +kernel
theorem dX1_keepFirst_32 : decode cX1_keepFirst 32 = .ok (.getfield 37, 3) := by decide +kernel
theorem dX1_keepFirst_35 : decode cX1_keepFirst 35 = .ok (.getfield 267, 3) := by decide +kernel
theorem dX1_keepFirst_38 : decode cX1_keepFirst 38 = .ok (.iload_n 1, 1) := by decide +kernel
theorem dX1_keepFirst_39 : decode cX1_keepFirst 39 = .ok (.iload_n 3, 1) := by decide +kernel
theorem dX1_keepFirst_40 : decode cX1_keepFirst 40 = .ok (.invokevirtual 209, 3) := by decide +kernel
theorem dX1_keepFirst_43 : decode cX1_keepFirst 43 = .ok (.aload_n 0, 1) := by decide +kernel
theorem dX1_keepFirst_44 : decode cX1_keepFirst 44 = .ok (.getfield 30, 3) := by decide +kernel
theorem dX1_keepFirst_47 : decode cX1_keepFirst 47 = .ok (.iload_n 3, 1) := by decide +kernel
theorem dX1_keepFirst_48 : decode cX1_keepFirst 48 = .ok (.invokevirtual 270, 3) := by decide +kernel
theorem dX1_keepFirst_51 : decode cX1_keepFirst 51 = .ok (.istore_n 3, 1) := by decide +kernel
theorem dX1_keepFirst_52 : decode cX1_keepFirst 52 = .ok (.iinc 4 1, 3) := by decide +kernel
theorem dX1_keepFirst_55 : decode cX1_keepFirst 55 = .ok (.goto (-30), 3) := by decide +kernel
theorem dX1_keepFirst_58 : decode cX1_keepFirst 58 = .ok (.return_, 1) := by decide +kernel
theorem hyX1_keepFirst : yX1_keepFirst.cls ≠ "java/lang/invoke/MethodHandle" ∧ yX1_keepFirst.cls ≠ "java/lang/invoke/VarHandle" ∧ (parseMethodDescriptor yX1_keepFirst.desc).map (fun d => d.parameters.length) = some 2 := ⟨by decide +kernel, by decide +kernel, by decide +kernel⟩
def sX1_keepFirst_25b (x0 : Nat) (x1 : Int32) (x2 : Int32) (σ : zS) (u3 : Int32) (u4 : Int32) : Option ((zS × Int32 × Int32) ⊕ zS) :=
  (if x2 ≤ u4 then some (.inr σ) else (zgR 1 15 σ x0).bind fun v6 => (zgR 0 10 σ v6).bind fun v7 => (zck 3 σ v7 (fX3_add σ v7 x1 u3)).bind fun c8 => (zgR 1 14 c8 x0).bind fun v9 => (zck 3 c8 v9 (fX3_behind c8 v9 u3)).bind fun c10 => some (.inl (c10.1, c10.2, u4 + 1)))
def sX1_keepFirst_25 (x0 : Nat) (x1 : Int32) (x2 : Int32) (z : (zS × Int32 × Int32)) : Option ((zS × Int32 × Int32) ⊕ zS) := sX1_keepFirst_25b x0 x1 x2 z.1 z.2.1 z.2.2
set_option maxRecDepth 100000 in
set_option maxHeartbeats 4000000 in
theorem wsX1_keepFirst_25b (C : zC p s m args meth c cX1_keepFirst RX1 5 D Ca B En) (hRm : zRm R 2 43 cells slots) (x0 : Nat) (x1 : Int32) (x2 : Int32) (σ : zS) (u3 : Int32) (u4 : Int32) (y : (zS × Int32 × Int32) ⊕ zS) (hf : sX1_keepFirst_25b x0 x1 x2 σ u3 u4 = some y) (hk : (∀ z : (zS × Int32 × Int32), y = .inl z → zW p l e R s m args below meth c cells slots Q D Ca B 5 z.1 N 25 [(0, .ref x0), (1, .int x1), (2, .int x2), (3, .int z.2.1), (4, .int z.2.2)] []) ∧ (∀ z : zS, y = .inr z → zW p l e R s m args below meth c cells slots Q D Ca B 5 z N 58 [] [])) : zW p l e R s m args below meth c cells slots Q D Ca B 5 σ N 25 [(0, .ref x0), (1, .int x1), (2, .int x2), (3, .int u3), (4, .int u4)] [] := by
  unfold sX1_keepFirst_25b at hf
  refine z_iload C dX1_keepFirst_25 4 rfl ?_
  refine z_iload_n C dX1_keepFirst_27 rfl 2 rfl ?_
  refine z_icmp_ge C 58 dX1_keepFirst_28 (by decide) (fun q11 => ?_) (fun q11 => ?_)
  · rw [if_pos q11] at hf
    cases hf
    refine z_sub [] rfl ?_
    exact hk.2 _ rfl
  · rw [if_neg q11] at hf
    refine z_aload_n C dX1_keepFirst_31 rfl 0 rfl ?_
    obtain ⟨v6, hv6, hf⟩ := zbind hf
    refine gf_RX1_37 C hv6 dX1_keepFirst_32 ?_
    obtain ⟨v7, hv7, hf⟩ := zbind hf
    refine gf_RX1_267 C hv7 dX1_keepFirst_35 ?_
    refine z_iload_n C dX1_keepFirst_38 rfl 1 rfl ?_
    refine z_iload_n C dX1_keepFirst_39 rfl 3 rfl ?_
    obtain ⟨c8, hc8, hf⟩ := zbind hf
    obtain ⟨kc8, hc8⟩ := zck_ok hc8
    refine z_callVv (As := [.int x1, .int u3]) (F0 := 2) (L0 := 43) C (mX3_add l D Ca B En C.2.2.2.2.2.2.2.1 σ N v7 x1 u3 _ hc8) hRm kc8 rfl kw_346 kw_9 kw_343 kw_344 kw_345 hyX3_add (Nat.le_of_ble_eq_true rfl) (Nat.le_of_ble_eq_true rfl) rfl rfl (Nat.le_of_ble_eq_true rfl) dX1_keepFirst_40 ?_
    refine z_aload_n C dX1_keepFirst_43 rfl 0 rfl ?_
    obtain ⟨v9, hv9, hf⟩ := zbind hf
    refine gf_RX1_30 C hv9 dX1_keepFirst_44 ?_
    refine z_iload_n C dX1_keepFirst_47 rfl 3 rfl ?_
    obtain ⟨c10, hc10, hf⟩ := zbind hf
    obtain ⟨kc10, hc10⟩ := zck_ok hc10
    refine z_callVi (As := [.int u3]) (F0 := 2) (L0 := 43) C (mX3_behind l D Ca B En C.2.2.2.2.2.2.2.1 c8 N v9 u3 _ hc10) hRm kc10 rfl kw_350 kw_9 kw_347 kw_348 kw_349 hyX3_behind (Nat.le_of_ble_eq_true rfl) (Nat.le_of_ble_eq_true rfl) rfl rfl (Nat.le_of_ble_eq_true rfl) dX1_keepFirst_48 ?_
    refine z_istore_n (lv2 := [(3, .int c10.2), (0, .ref x0), (1, .int x1), (2, .int x2), (4, .int u4)]) C dX1_keepFirst_51 rfl (by decide) rfl ?_
    refine z_iinc (lv2 := [(4, .int (u4 + 1)), (3, .int c10.2), (0, .ref x0), (1, .int x1), (2, .int x2)]) C (u4 + 1) dX1_keepFirst_52 4 rfl rfl (by decide) rfl ?_
    refine z_goto C 25 dX1_keepFirst_55 (by decide) ?_
    cases hf
    refine z_sub [2, 3, 4, 1, 0] rfl ?_
    exact hk.1 _ rfl

theorem wsX1_keepFirst_25 (C : zC p s m args meth c cX1_keepFirst RX1 5 D Ca B En) (hRm : zRm R 2 43 cells slots) (x0 : Nat) (x1 : Int32) (x2 : Int32) (n : Nat) (z : (zS × Int32 × Int32)) (x : zS) (hf : zloop (sX1_keepFirst_25 x0 x1 x2) n z = some x) (hk : (∀ o : zS, x = o → zW p l e R s m args below meth c cells slots Q D Ca B 5 o N 58 [] [])) : zW p l e R s m args below meth c cells slots Q D Ca B 5 z.1 N 25 [(0, .ref x0), (1, .int x1), (2, .int x2), (3, .int z.2.1), (4, .int z.2.2)] [] := by
  refine zloop_W (P := fun z : (zS × Int32 × Int32) => zW p l e R s m args below meth c cells slots Q D Ca B 5 z.1 N 25 [(0, .ref x0), (1, .int x1), (2, .int x2), (3, .int z.2.1), (4, .int z.2.2)] []) (K := fun x : zS => (∀ o : zS, x = o → zW p l e R s m args below meth c cells slots Q D Ca B 5 o N 58 [] [])) ?_ n z x hf hk
  intro z y hy h1 h2
  refine wsX1_keepFirst_25b C hRm x0 x1 x2 z.1 z.2.1 z.2.2 y hy ⟨fun z2 e => h1 z2 e, fun o e => (h2 _ e) o rfl⟩
def fX1_keepFirst (σ : zS) (x0 : Nat) (x1 : Int32) (x2 : Int32) : Option zS :=
  (zgR 1 15 σ x0).bind fun v1 => (zgI 0 6 σ v1).bind fun v2 => (zpI 0 6 σ v1 (v2 + x2)).bind fun σ3 => (zgR 1 14 σ3 x0).bind fun v4 => (zck 3 σ3 v4 (fX3_firstOf σ3 v4 x1)).bind fun c5 => (zloop (sX1_keepFirst_25 x0 x1 x2) zfuel (c5.1, c5.2, 0)).bind fun o12 => some o12
set_option maxRecDepth 100000 in
set_option maxHeartbeats 4000000 in
theorem wfX1_keepFirst (C : zC p s m args meth c cX1_keepFirst RX1 5 D Ca B En) (hRm : zRm R 2 43 cells slots) (σ : zS) (x0 : Nat) (x1 : Int32) (x2 : Int32) (τ : zS) (hf : fX1_keepFirst σ x0 x1 x2 = some τ) (hq : ∀ (pc : Nat) (lv : List (Nat × Value)), decode cX1_keepFirst pc = .ok (.return_, 1) → zW p l e R s m args below meth c cells slots Q D Ca B 5 τ N pc lv []) : zW p l e R s m args below meth c cells slots Q D Ca B 5 σ N 0 [(0, .ref x0), (1, .int x1), (2, .int x2)] [] := by
  unfold fX1_keepFirst at hf
  refine z_aload_n C dX1_keepFirst_0 rfl 0 rfl ?_
  obtain ⟨v1, hv1, hf⟩ := zbind hf
  refine gf_RX1_37 C hv1 dX1_keepFirst_1 ?_
  refine z_dup C dX1_keepFirst_4 rfl ?_
  obtain ⟨v2, hv2, hf⟩ := zbind hf
  refine gf_RX1_264 C hv2 dX1_keepFirst_5 ?_
  refine z_iload_n C dX1_keepFirst_8 rfl 2 rfl ?_
  refine z_iadd C dX1_keepFirst_9 ?_
  obtain ⟨σ3, hσ3, hf⟩ := zbind hf
  refine gp_RX1_264 C hσ3 dX1_keepFirst_10 ?_
  refine z_aload_n C dX1_keepFirst_13 rfl 0 rfl ?_
  obtain ⟨v4, hv4, hf⟩ := zbind hf
  refine gf_RX1_30 C hv4 dX1_keepFirst_14 ?_
  refine z_iload_n C dX1_keepFirst_17 rfl 1 rfl ?_
  obtain ⟨c5, hc5, hf⟩ := zbind hf
  obtain ⟨kc5, hc5⟩ := zck_ok hc5
  refine z_callVi (As := [.int x1]) (F0 := 2) (L0 := 43) C (mX3_firstOf l D Ca B En C.2.2.2.2.2.2.2.1 σ3 N v4 x1 _ hc5) hRm kc5 rfl kw_338 kw_9 kw_335 kw_336 kw_337 hyX3_firstOf (Nat.le_of_ble_eq_true rfl) (Nat.le_of_ble_eq_true rfl) rfl rfl (Nat.le_of_ble_eq_true rfl) dX1_keepFirst_18 ?_
  refine z_istore_n (lv2 := [(3, .int c5.2), (0, .ref x0), (1, .int x1), (2, .int x2)]) C dX1_keepFirst_21 rfl (by decide) rfl ?_
  refine z_iconst C 0 dX1_keepFirst_22 (by decide) ?_
  refine z_istore (lv2 := [(4, .int 0), (3, .int c5.2), (0, .ref x0), (1, .int x1), (2, .int x2)]) C dX1_keepFirst_23 (by decide) rfl ?_
  obtain ⟨o12, ho12, hf⟩ := zbind hf
  refine z_sub [2, 3, 4, 1, 0] rfl ?_
  refine wsX1_keepFirst_25 C hRm _ _ _ zfuel (c5.1, c5.2, 0) o12 ho12 ?_
  intro z9 e9
  subst e9
  cases hf
  exact hq _ _ dX1_keepFirst_58

theorem mX1_keepFirst (l : Launch) (D : va_G) (Ca : Nat → ClassId) (B : Nat) (En : State → Prop) (hE : zEk B En) (σ : zS) (N : Nat) (x0 : Nat) (x1 : Int32) (x2 : Int32) (X : zS) (hf : fX1_keepFirst σ x0 x1 x2 = some X) : zMv l D Ca B En yX1_keepFirst cX1_keepFirst 5 (Option.none : Option Jvm.ClassFile.FieldType) 2 43 [.ref x0, .int x1, .int x2] σ N X () :=
  zMet_v (own := RX1) hE (by decide +kernel) rfl (Nat.le_of_ble_eq_true rfl) (fun p e s m args below meth c C hr hRm => wfX1_keepFirst C hRm σ x0 x1 x2 X hf (fun pc lv hd => zfin_v (r := ()) C hr hd))
theorem dX1_letBarrierArrive_0 : decode cX1_letBarrierArrive 0 = .ok (.iload_n 1, 1) := by decide +kernel
theorem dX1_letBarrierArrive_1 : decode cX1_letBarrierArrive 1 = .ok (.iload_n 2, 1) := by decide +kernel
theorem dX1_letBarrierArrive_2 : decode cX1_letBarrierArrive 2 = .ok (.invokestatic 190, 3) := by decide +kernel
theorem dX1_letBarrierArrive_5 : decode cX1_letBarrierArrive 5 = .ok (.istore_n 3, 1) := by decide +kernel
theorem dX1_letBarrierArrive_6 : decode cX1_letBarrierArrive 6 = .ok (.aload_n 0, 1) := by decide +kernel
theorem dX1_letBarrierArrive_7 : decode cX1_letBarrierArrive 7 = .ok (.getfield 47, 3) := by decide +kernel
theorem dX1_letBarrierArrive_10 : decode cX1_letBarrierArrive 10 = .ok (.iload_n 3, 1) := by decide +kernel
theorem dX1_letBarrierArrive_11 : decode cX1_letBarrierArrive 11 = .ok (.iaload, 1) := by decide +kernel
theorem dX1_letBarrierArrive_12 : decode cX1_letBarrierArrive 12 = .ok (.istore 4, 2) := by decide +kernel
theorem dX1_letBarrierArrive_14 : decode cX1_letBarrierArrive 14 = .ok (.aload_n 0, 1) := by decide +kernel
theorem dX1_letBarrierArrive_15 : decode cX1_letBarrierArrive 15 = .ok (.getfield 37, 3) := by decide +kernel
theorem dX1_letBarrierArrive_18 : decode cX1_letBarrierArrive 18 = .ok (.getfield 249, 3) := by decide +kernel
theorem dX1_letBarrierArrive_21 : decode cX1_letBarrierArrive 21 = .ok (.iload_n 1, 1) := by decide +kernel
theorem dX1_letBarrierArrive_22 : decode cX1_letBarrierArrive 22 = .ok (.iaload, 1) := by decide +kernel
theorem dX1_letBarrierArrive_23 : decode cX1_letBarrierArrive 23 = .ok (.ifCond .ne 7, 3) := by decide +kernel
theorem dX1_letBarrierArrive_26 : decode cX1_letBarrierArrive 26 = .ok (.iconst 1, 1) := by decide +kernel
theorem dX1_letBarrierArrive_27 : decode cX1_letBarrierArrive 27 = .ok (.goto 4, 3) := by decide +kernel
theorem dX1_letBarrierArrive_30 : decode cX1_letBarrierArrive 30 = .ok (.iconst 0, 1) := by decide +kernel
theorem dX1_letBarrierArrive_31 : decode cX1_letBarrierArrive 31 = .ok (.istore 5, 2) := by decide +kernel
theorem dX1_letBarrierArrive_33 : decode cX1_letBarrierArrive 33 = .ok (.aload_n 0, 1) := by decide +kernel
theorem dX1_letBarrierArrive_34 : decode cX1_letBarrierArrive 34 = .ok (.getfield 47, 3) := by decide +kernel
theorem dX1_letBarrierArrive_37 : decode cX1_letBarrierArrive 37 = .ok (.iload_n 3, 1) := by decide +kernel
theorem dX1_letBarrierArrive_38 : decode cX1_letBarrierArrive 38 = .ok (.iconst (-1), 1) := by decide +kernel
theorem dX1_letBarrierArrive_39 : decode cX1_letBarrierArrive 39 = .ok (.iastore, 1) := by decide +kernel
theorem dX1_letBarrierArrive_40 : decode cX1_letBarrierArrive 40 = .ok (.aload_n 0, 1) := by decide +kernel
theorem dX1_letBarrierArrive_41 : decode cX1_letBarrierArrive 41 = .ok (.getfield 37, 3) := by decide +kernel
theorem dX1_letBarrierArrive_44 : decode cX1_letBarrierArrive 44 = .ok (.getfield 249, 3) := by decide +kernel
theorem dX1_letBarrierArrive_47 : decode cX1_letBarrierArrive 47 = .ok (.iload_n 1, 1) := by decide +kernel
theorem dX1_letBarrierArrive_48 : decode cX1_letBarrierArrive 48 = .ok (.dup2, 1) := by decide +kernel
theorem dX1_letBarrierArrive_49 : decode cX1_letBarrierArrive 49 = .ok (.iaload, 1) := by decide +kernel
theorem dX1_letBarrierArrive_50 : decode cX1_letBarrierArrive 50 = .ok (.iconst 1, 1) := by decide +kernel
theorem dX1_letBarrierArrive_51 : decode cX1_letBarrierArrive 51 = .ok (.iload_n 2, 1) := by decide +kernel
theorem dX1_letBarrierArrive_52 : decode cX1_letBarrierArrive 52 = .ok (.ishl, 1) := by decide +kernel
theorem dX1_letBarrierArrive_53 : decode cX1_letBarrierArrive 53 = .ok (.ior, 1) := by decide +kernel
theorem dX1_letBarrierArrive_54 : decode cX1_letBarrierArrive 54 = .ok (.iastore, 1) := by decide +kernel
theorem dX1_letBarrierArrive_55 : decode cX1_letBarrierArrive 55 = .ok (.aload_n 0, 1) := by decide +kernel
theorem dX1_letBarrierArrive_56 : decode cX1_letBarrierArrive 56 = .ok (.getfield 37, 3) := by decide +kernel
theorem dX1_letBarrierArrive_59 : decode cX1_letBarrierArrive 59 = .ok (.getfield 252, 3) := by decide +kernel
theorem dX1_letBarrierArrive_62 : decode cX1_letBarrierArrive 62 = .ok (.ifCond .eq 21, 3) := by decide +kernel
theorem dX1_letBarrierArrive_65 : decode cX1_letBarrierArrive 65 = .ok (.iload 5, 2) := by decide +kernel
theorem dX1_letBarrierArrive_67 : decode cX1_letBarrierArrive 67 = .ok (.ifCond .eq 8, 3) := by decide +kernel
theorem dX1_letBarrierArrive_70 : decode cX1_letBarrierArrive 70 = .ok (.aload_n 0, 1) := by decide +kernel
theorem dX1_letBarrierArrive_71 : decode cX1_letBarrierArrive 71 = .ok (.iload_n 1, 1) := by decide +kernel
theorem dX1_letBarrierArrive_72 : decode cX1_letBarrierArrive 72 = .ok (.invokevirtual 253, 3) := by decide +kernel
theorem dX1_letBarrierArrive_75 : decode cX1_letBarrierArrive 75 = .ok (.aload_n 0, 1) := by decide +kernel
theorem dX1_letBarrierArrive_76 : decode cX1_letBarrierArrive 76 = .ok (.iload_n 3, 1) := by decide +kernel
theorem dX1_letBarrierArrive_77 : decode cX1_letBarrierArrive 77 = .ok (.iload 4, 2) := by decide +kernel
theorem dX1_letBarrierArrive_79 : decode cX1_letBarrierArrive 79 = .ok (.invokevirtual 256, 3) := by decide +kernel
theorem dX1_letBarrierArrive_82 : decode cX1_letBarrierArrive 82 = .ok (.return_, 1) := by decide +kernel
theorem dX1_letBarrierArrive_83 : decode cX1_letBarrierArrive 83 = .ok (.aload_n 0, 1) := by decide +kernel
theorem dX1_letBarrierArrive_84 : decode cX1_letBarrierArrive 84 = .ok (.getfield 24, 3) := by decide +kernel
theorem dX1_letBarrierArrive_87 : decode cX1_letBarrierArrive 87 = .ok (.iload_n 1, 1) := by decide +kernel
theorem dX1_letBarrierArrive_88 : decode cX1_letBarrierArrive 88 = .ok (.dup2, 1) := by decide +kernel
theorem dX1_letBarrierArrive_89 : decode cX1_letBarrierArrive 89 = .ok (.iaload, 1) := by decide +kernel
theorem dX1_letBarrierArrive_90 : decode cX1_letBarrierArrive 90 = .ok (.iconst 1, 1) := by decide +kernel
theorem dX1_letBarrierArrive_91 : decode cX1_letBarrierArrive 91 = .ok (.iload_n 2, 1) := by decide +kernel
theorem dX1_letBarrierArrive_92 : decode cX1_letBarrierArrive 92 = .ok (.ishl, 1) := by decide +kernel
theorem dX1_letBarrierArrive_93 : decode cX1_letBarrierArrive 93 = .ok (.ior, 1) := by decide +kernel
theorem dX1_letBarrierArrive_94 : decode cX1_letBarrierArrive 94 = .ok (.iastore, 1) := by decide +kernel
theorem dX1_letBarrierArrive_95 : decode cX1_letBarrierArrive 95 = .ok (.aload_n 0, 1) := by decide +kernel
theorem dX1_letBarrierArrive_96 : decode cX1_letBarrierArrive 96 = .ok (.getfield 37, 3) := by decide +kernel
theorem dX1_letBarrierArrive_99 : decode cX1_letBarrierArrive 99 = .ok (.getfield 249, 3) := by decide +kernel
theorem dX1_letBarrierArrive_102 : decode cX1_letBarrierArrive 102 = .ok (.iload_n 1, 1) := by decide +kernel
theorem dX1_letBarrierArrive_103 : decode cX1_letBarrierArrive 103 = .ok (.iaload, 1) := by decide +kernel
theorem dX1_letBarrierArrive_104 : decode cX1_letBarrierArrive 104 = .ok (.invokestatic 259, 3) := by decide +kernel
theorem dX1_letBarrierArrive_107 : decode cX1_letBarrierArrive 107 = .ok (.aload_n 0, 1) := by decide +kernel
theorem dX1_letBarrierArrive_108 : decode cX1_letBarrierArrive 108 = .ok (.iload_n 1, 1) := by decide +kernel
theorem dX1_letBarrierArrive_109 : decode cX1_letBarrierArrive 109 = .ok (.invokevirtual 215, 3) := by decide +kernel
theorem dX1_letBarrierArrive_112 : decode cX1_letBarrierArrive 112 = .ok (.if_icmp .ne 15, 3) := by decide +kernel
theorem dX1_letBarrierArrive_115 : decode cX1_letBarrierArrive 115 = .ok (.aload_n 0, 1) := by decide +kernel
theorem dX1_letBarrierArrive_116 : decode cX1_letBarrierArrive 116 = .ok (.iload_n 1, 1) := by decide +kernel
theorem dX1_letBarrierArrive_117 : decode cX1_letBarrierArrive 117 = .ok (.invokevirtual 253, 3) := by decide +kernel
theorem dX1_letBarrierArrive_120 : decode cX1_letBarrierArrive 120 = .ok (.aload_n 0, 1) := by decide +kernel
theorem dX1_letBarrierArrive_121 : decode cX1_letBarrierArrive 121 = .ok (.getfield 24, 3) := by decide +kernel
theorem dX1_letBarrierArrive_124 : decode cX1_letBarrierArrive 124 = .ok (.iload_n 1, 1) := by decide +kernel
theorem dX1_letBarrierArrive_125 : decode cX1_letBarrierArrive 125 = .ok (.iconst 0, 1) := by decide +kernel
theorem dX1_letBarrierArrive_126 : decode cX1_letBarrierArrive 126 = .ok (.iastore, 1) := by decide +kernel
theorem dX1_letBarrierArrive_127 : decode cX1_letBarrierArrive 127 = .ok (.return_, 1) := by decide +kernel
theorem hyX1_letBarrierArrive : yX1_letBarrierArrive.cls ≠ "java/lang/invoke/MethodHandle" ∧ yX1_letBarrierArrive.cls ≠ "java/lang/invoke/VarHandle" ∧ (parseMethodDescriptor yX1_letBarrierArrive.desc).map (fun d => d.parameters.length) = some 2 := ⟨by decide +kernel, by decide +kernel, by decide +kernel⟩
def jX1_letBarrierArrive_75 (σ : zS) (x0 : Nat) (x3 : Int32) (x4 : Int32)  : Option zS :=
  (zck 1 σ x0 (fX1_keepFirst σ x0 x3 x4)).bind fun c27 => some c27
set_option maxRecDepth 100000 in
set_option maxHeartbeats 4000000 in
theorem wjX1_letBarrierArrive_75 (C : zC p s m args meth c cX1_letBarrierArrive RX1 6 D Ca B En) (hRm : zRm R 3 67 cells slots) (σ : zS) (x0 : Nat) (x3 : Int32) (x4 : Int32)  (τ : zS) (hf : jX1_letBarrierArrive_75 σ x0 x3 x4  = some τ) (hq : ∀ (pc : Nat) (lv : List (Nat × Value)), decode cX1_letBarrierArrive pc = .ok (.return_, 1) → zW p l e R s m args below meth c cells slots Q D Ca B 6 τ N pc lv []) : zW p l e R s m args below meth c cells slots Q D Ca B 6 σ N 75 [(0, .ref x0), (3, .int x3), (4, .int x4)] [] := by
  unfold jX1_letBarrierArrive_75 at hf
  refine z_aload_n C dX1_letBarrierArrive_75 rfl 0 rfl ?_
  refine z_iload_n C dX1_letBarrierArrive_76 rfl 1 rfl ?_
  refine z_iload C dX1_letBarrierArrive_77 2 rfl ?_
  obtain ⟨c27, hc27, hf⟩ := zbind hf
  obtain ⟨kc27, hc27⟩ := zck_ok hc27
  refine z_callVv (As := [.int x3, .int x4]) (F0 := 3) (L0 := 67) C (mX1_keepFirst l D Ca B En C.2.2.2.2.2.2.2.1 σ N x0 x3 x4 _ hc27) hRm kc27 rfl kw_783 kw_8 kw_780 kw_782 kp_24 hyX1_keepFirst (Nat.le_of_ble_eq_true rfl) (Nat.le_of_ble_eq_true rfl) rfl rfl (Nat.le_of_ble_eq_true rfl) dX1_letBarrierArrive_79 ?_
  cases hf
  exact hq _ _ dX1_letBarrierArrive_82

def jX1_letBarrierArrive_31 (σ : zS) (x0 : Nat) (x1 : Int32) (x2 : Int32) (x3 : Int32) (x4 : Int32) (y0 : Int32) : Option zS :=
  (zgR 1 19 σ x0).bind fun v7 => (zsI σ v7 x3 ((-1))).bind fun σ8 => (zgR 1 15 σ8 x0).bind fun v9 => (zgR 0 7 σ8 v9).bind fun v10 => (zaI σ8 v10 x1).bind fun v11 => (zsI σ8 v10 x1 (v11 ||| (1 <<< (x2 &&& 31)))).bind fun σ12 => (zgR 1 15 σ12 x0).bind fun v13 => (zgI 0 3 σ12 v13).bind fun v14 => (if v14 = 0 then (zgR 1 13 σ12 x0).bind fun v15 => (zaI σ12 v15 x1).bind fun v16 => (zsI σ12 v15 x1 (v16 ||| (1 <<< (x2 &&& 31)))).bind fun σ17 => (zgR 1 15 σ17 x0).bind fun v18 => (zgR 0 7 σ17 v18).bind fun v19 => (zaI σ17 v19 x1).bind fun v20 => (fJ6_bitCount_0f7a4 σ17 v20).bind fun c21 => (zck 1 c21.1 x0 (fX1_sendersTo c21.1 x0 x1)).bind fun c22 => (if c21.2 = c22.2 then (zck 1 c22.1 x0 (fX1_cut c22.1 x0 x1)).bind fun c23 => (zgR 1 13 c23 x0).bind fun v24 => (zsI c23 v24 x1 0).bind fun σ25 => some σ25 else some c22.1) else (if y0 = 0 then jX1_letBarrierArrive_75 σ12 x0 x3 x4 else (zck 1 σ12 x0 (fX1_cut σ12 x0 x1)).bind fun c28 => jX1_letBarrierArrive_75 c28 x0 x3 x4))
set_option maxRecDepth 100000 in
set_option maxHeartbeats 4000000 in
theorem wjX1_letBarrierArrive_31 (C : zC p s m args meth c cX1_letBarrierArrive RX1 6 D Ca B En) (hRm : zRm R 3 67 cells slots) (σ : zS) (x0 : Nat) (x1 : Int32) (x2 : Int32) (x3 : Int32) (x4 : Int32) (y0 : Int32) (τ : zS) (hf : jX1_letBarrierArrive_31 σ x0 x1 x2 x3 x4 y0 = some τ) (hq : ∀ (pc : Nat) (lv : List (Nat × Value)), decode cX1_letBarrierArrive pc = .ok (.return_, 1) → zW p l e R s m args below meth c cells slots Q D Ca B 6 τ N pc lv []) : zW p l e R s m args below meth c cells slots Q D Ca B 6 σ N 31 [(0, .ref x0), (1, .int x1), (2, .int x2), (3, .int x3), (4, .int x4)] [.int y0] := by
  unfold jX1_letBarrierArrive_31 at hf
  refine z_istore (lv2 := [(5, .int y0), (0, .ref x0), (1, .int x1), (2, .int x2), (3, .int x3), (4, .int x4)]) C dX1_letBarrierArrive_31 (by decide) rfl ?_
  refine z_aload_n C dX1_letBarrierArrive_33 rfl 1 rfl ?_
  obtain ⟨v7, hv7, hf⟩ := zbind hf
  refine gf_RX1_47 C hv7 dX1_letBarrierArrive_34 ?_
  refine z_iload_n C dX1_letBarrierArrive_37 rfl 4 rfl ?_
  refine z_iconst C (-1) dX1_letBarrierArrive_38 (by decide) ?_
  obtain ⟨σ8, hσ8, hf⟩ := zbind hf
  refine z_sI C hσ8 dX1_letBarrierArrive_39 ?_
  refine z_aload_n C dX1_letBarrierArrive_40 rfl 1 rfl ?_
  obtain ⟨v9, hv9, hf⟩ := zbind hf
  refine gf_RX1_37 C hv9 dX1_letBarrierArrive_41 ?_
  obtain ⟨v10, hv10, hf⟩ := zbind hf
  refine gf_RX1_249 C hv10 dX1_letBarrierArrive_44 ?_
  refine z_iload_n C dX1_letBarrierArrive_47 rfl 2 rfl ?_
  refine z_dup2 C dX1_letBarrierArrive_48 rfl rfl ?_
  obtain ⟨v11, hv11, hf⟩ := zbind hf
  refine z_aI C hv11 dX1_letBarrierArrive_49 ?_
  refine z_iconst C 1 dX1_letBarrierArrive_50 (by decide) ?_
  refine z_iload_n C dX1_letBarrierArrive_51 rfl 3 rfl ?_
  refine z_ishl C dX1_letBarrierArrive_52 ?_
  refine z_ior C dX1_letBarrierArrive_53 ?_
  obtain ⟨σ12, hσ12, hf⟩ := zbind hf
  refine z_sI C hσ12 dX1_letBarrierArrive_54 ?_
  refine z_aload_n C dX1_letBarrierArrive_55 rfl 1 rfl ?_
  obtain ⟨v13, hv13, hf⟩ := zbind hf
  refine gf_RX1_37 C hv13 dX1_letBarrierArrive_56 ?_
  obtain ⟨v14, hv14, hf⟩ := zbind hf
  refine gf_RX1_252 C hv14 dX1_letBarrierArrive_59 ?_
  refine z_if_eq C 83 dX1_letBarrierArrive_62 (by decide) (fun q30 => ?_) (fun q30 => ?_)
  · rw [if_pos q30] at hf
    refine z_aload_n C dX1_letBarrierArrive_83 rfl 1 rfl ?_
    obtain ⟨v15, hv15, hf⟩ := zbind hf
    refine gf_RX1_24 C hv15 dX1_letBarrierArrive_84 ?_
    refine z_iload_n C dX1_letBarrierArrive_87 rfl 2 rfl ?_
    refine z_dup2 C dX1_letBarrierArrive_88 rfl rfl ?_
    obtain ⟨v16, hv16, hf⟩ := zbind hf
    refine z_aI C hv16 dX1_letBarrierArrive_89 ?_
    refine z_iconst C 1 dX1_letBarrierArrive_90 (by decide) ?_
    refine z_iload_n C dX1_letBarrierArrive_91 rfl 3 rfl ?_
    refine z_ishl C dX1_letBarrierArrive_92 ?_
    refine z_ior C dX1_letBarrierArrive_93 ?_
    obtain ⟨σ17, hσ17, hf⟩ := zbind hf
    refine z_sI C hσ17 dX1_letBarrierArrive_94 ?_
    refine z_aload_n C dX1_letBarrierArrive_95 rfl 1 rfl ?_
    obtain ⟨v18, hv18, hf⟩ := zbind hf
    refine gf_RX1_37 C hv18 dX1_letBarrierArrive_96 ?_
    obtain ⟨v19, hv19, hf⟩ := zbind hf
    refine gf_RX1_249 C hv19 dX1_letBarrierArrive_99 ?_
    refine z_iload_n C dX1_letBarrierArrive_102 rfl 2 rfl ?_
    obtain ⟨v20, hv20, hf⟩ := zbind hf
    refine z_aI C hv20 dX1_letBarrierArrive_103 ?_
    obtain ⟨c21, hc21, hf⟩ := zbind hf
    refine z_callSi (As := [.int v20]) (F0 := 3) (L0 := 67) C (mJ6_bitCount_0f7a4 l D Ca B En C.2.2.2.2.2.2.2.1 σ17 N v20 _ hc21) hRm kw_786 kw_25 kw_784 kw_785 hyJ6_bitCount_0f7a4 (Nat.le_of_ble_eq_true rfl) (Nat.le_of_ble_eq_true rfl) rfl rfl (Nat.le_of_ble_eq_true rfl) dX1_letBarrierArrive_104 ?_
    refine z_aload_n C dX1_letBarrierArrive_107 rfl 1 rfl ?_
    refine z_iload_n C dX1_letBarrierArrive_108 rfl 2 rfl ?_
    obtain ⟨c22, hc22, hf⟩ := zbind hf
    obtain ⟨kc22, hc22⟩ := zck_ok hc22
    refine z_callVi (As := [.int x1]) (F0 := 3) (L0 := 67) C (mX1_sendersTo l D Ca B En C.2.2.2.2.2.2.2.1 c21.1 N x0 x1 _ hc22) hRm kc22 rfl kw_771 kw_8 kw_768 kw_770 kp_21 hyX1_sendersTo (Nat.le_of_ble_eq_true rfl) (Nat.le_of_ble_eq_true rfl) rfl rfl (Nat.le_of_ble_eq_true rfl) dX1_letBarrierArrive_109 ?_
    refine z_icmp_ne C 127 dX1_letBarrierArrive_112 (by decide) (fun q26 => ?_) (fun q26 => ?_)
    · rw [if_neg q26] at hf
      cases hf
      exact hq _ _ dX1_letBarrierArrive_127
    · rw [if_pos q26] at hf
      refine z_aload_n C dX1_letBarrierArrive_115 rfl 1 rfl ?_
      refine z_iload_n C dX1_letBarrierArrive_116 rfl 2 rfl ?_
      obtain ⟨c23, hc23, hf⟩ := zbind hf
      obtain ⟨kc23, hc23⟩ := zck_ok hc23
      refine z_callVv (As := [.int x1]) (F0 := 3) (L0 := 67) C (mX1_cut l D Ca B En C.2.2.2.2.2.2.2.1 c22.1 N x0 x1 _ hc23) hRm kc23 rfl kw_779 kw_8 kw_776 kw_778 kp_23 hyX1_cut (Nat.le_of_ble_eq_true rfl) (Nat.le_of_ble_eq_true rfl) rfl rfl (Nat.le_of_ble_eq_true rfl) dX1_letBarrierArrive_117 ?_
      refine z_aload_n C dX1_letBarrierArrive_120 rfl 1 rfl ?_
      obtain ⟨v24, hv24, hf⟩ := zbind hf
      refine gf_RX1_24 C hv24 dX1_letBarrierArrive_121 ?_
      refine z_iload_n C dX1_letBarrierArrive_124 rfl 2 rfl ?_
      refine z_iconst C 0 dX1_letBarrierArrive_125 (by decide) ?_
      obtain ⟨σ25, hσ25, hf⟩ := zbind hf
      refine z_sI C hσ25 dX1_letBarrierArrive_126 ?_
      cases hf
      exact hq _ _ dX1_letBarrierArrive_127
  · rw [if_neg q30] at hf
    refine z_iload C dX1_letBarrierArrive_65 0 rfl ?_
    refine z_if_eq C 75 dX1_letBarrierArrive_67 (by decide) (fun q29 => ?_) (fun q29 => ?_)
    · rw [if_pos q29] at hf
      refine z_sub [1, 4, 5] rfl ?_
      exact wjX1_letBarrierArrive_75 C hRm _ _ _ _  _ hf hq
    · rw [if_neg q29] at hf
      refine z_aload_n C dX1_letBarrierArrive_70 rfl 1 rfl ?_
      refine z_iload_n C dX1_letBarrierArrive_71 rfl 2 rfl ?_
      obtain ⟨c28, hc28, hf⟩ := zbind hf
      obtain ⟨kc28, hc28⟩ := zck_ok hc28
      refine z_callVv (As := [.int x1]) (F0 := 3) (L0 := 67) C (mX1_cut l D Ca B En C.2.2.2.2.2.2.2.1 σ12 N x0 x1 _ hc28) hRm kc28 rfl kw_779 kw_8 kw_776 kw_778 kp_23 hyX1_cut (Nat.le_of_ble_eq_true rfl) (Nat.le_of_ble_eq_true rfl) rfl rfl (Nat.le_of_ble_eq_true rfl) dX1_letBarrierArrive_72 ?_
      refine z_sub [1, 4, 5] rfl ?_
      exact wjX1_letBarrierArrive_75 C hRm _ _ _ _  _ hf hq

def fX1_letBarrierArrive (σ : zS) (x0 : Nat) (x1 : Int32) (x2 : Int32) : Option zS :=
  (fX9_channel σ x1 x2).bind fun c1 => (zgR 1 19 c1.1 x0).bind fun v2 => (zaI c1.1 v2 c1.2).bind fun v3 => (zgR 1 15 c1.1 x0).bind fun v4 => (zgR 0 7 c1.1 v4).bind fun v5 => (zaI c1.1 v5 x1).bind fun v6 => (if v6 = 0 then jX1_letBarrierArrive_31 c1.1 x0 x1 x2 c1.2 v3 1 else jX1_letBarrierArrive_31 c1.1 x0 x1 x2 c1.2 v3 0)
set_option maxRecDepth 100000 in
set_option maxHeartbeats 4000000 in
theorem wfX1_letBarrierArrive (C : zC p s m args meth c cX1_letBarrierArrive RX1 6 D Ca B En) (hRm : zRm R 3 67 cells slots) (σ : zS) (x0 : Nat) (x1 : Int32) (x2 : Int32) (τ : zS) (hf : fX1_letBarrierArrive σ x0 x1 x2 = some τ) (hq : ∀ (pc : Nat) (lv : List (Nat × Value)), decode cX1_letBarrierArrive pc = .ok (.return_, 1) → zW p l e R s m args below meth c cells slots Q D Ca B 6 τ N pc lv []) : zW p l e R s m args below meth c cells slots Q D Ca B 6 σ N 0 [(0, .ref x0), (1, .int x1), (2, .int x2)] [] := by
  unfold fX1_letBarrierArrive at hf
  refine z_iload_n C dX1_letBarrierArrive_0 rfl 1 rfl ?_
  refine z_iload_n C dX1_letBarrierArrive_1 rfl 2 rfl ?_
  obtain ⟨c1, hc1, hf⟩ := zbind hf
  refine z_callSNi (host := "BarrierFlow") (As := [.int x1, .int x2]) (F0 := 3) (L0 := 67) C (mX9_channel l D Ca B En C.2.2.2.2.2.2.2.1 σ N x1 x2 _ hc1) hRm kw_686 kw_1 (by decide) kw_685 hyX9_channel (Nat.le_of_ble_eq_true rfl) (Nat.le_of_ble_eq_true rfl) rfl rfl (Nat.le_of_ble_eq_true rfl) dX1_letBarrierArrive_2 ?_
  refine z_istore_n (lv2 := [(3, .int c1.2), (0, .ref x0), (1, .int x1), (2, .int x2)]) C dX1_letBarrierArrive_5 rfl (by decide) rfl ?_
  refine z_aload_n C dX1_letBarrierArrive_6 rfl 1 rfl ?_
  obtain ⟨v2, hv2, hf⟩ := zbind hf
  refine gf_RX1_47 C hv2 dX1_letBarrierArrive_7 ?_
  refine z_iload_n C dX1_letBarrierArrive_10 rfl 0 rfl ?_
  obtain ⟨v3, hv3, hf⟩ := zbind hf
  refine z_aI C hv3 dX1_letBarrierArrive_11 ?_
  refine z_istore (lv2 := [(4, .int v3), (3, .int c1.2), (0, .ref x0), (1, .int x1), (2, .int x2)]) C dX1_letBarrierArrive_12 (by decide) rfl ?_
  refine z_aload_n C dX1_letBarrierArrive_14 rfl 2 rfl ?_
  obtain ⟨v4, hv4, hf⟩ := zbind hf
  refine gf_RX1_37 C hv4 dX1_letBarrierArrive_15 ?_
  obtain ⟨v5, hv5, hf⟩ := zbind hf
  refine gf_RX1_249 C hv5 dX1_letBarrierArrive_18 ?_
  refine z_iload_n C dX1_letBarrierArrive_21 rfl 3 rfl ?_
  obtain ⟨v6, hv6, hf⟩ := zbind hf
  refine z_aI C hv6 dX1_letBarrierArrive_22 ?_
  refine z_if_ne C 30 dX1_letBarrierArrive_23 (by decide) (fun q31 => ?_) (fun q31 => ?_)
  · rw [if_neg q31] at hf
    refine z_iconst C 0 dX1_letBarrierArrive_30 (by decide) ?_
    refine z_sub [2, 3, 4, 1, 0] rfl ?_
    exact wjX1_letBarrierArrive_31 C hRm _ _ _ _ _ _ _ _ hf hq
  · rw [if_pos q31] at hf
    refine z_iconst C 1 dX1_letBarrierArrive_26 (by decide) ?_
    refine z_goto C 31 dX1_letBarrierArrive_27 (by decide) ?_
    refine z_sub [2, 3, 4, 1, 0] rfl ?_
    exact wjX1_letBarrierArrive_31 C hRm _ _ _ _ _ _ _ _ hf hq

theorem mX1_letBarrierArrive (l : Launch) (D : va_G) (Ca : Nat → ClassId) (B : Nat) (En : State → Prop) (hE : zEk B En) (σ : zS) (N : Nat) (x0 : Nat) (x1 : Int32) (x2 : Int32) (X : zS) (hf : fX1_letBarrierArrive σ x0 x1 x2 = some X) : zMv l D Ca B En yX1_letBarrierArrive cX1_letBarrierArrive 6 (Option.none : Option Jvm.ClassFile.FieldType) 3 67 [.ref x0, .int x1, .int x2] σ N X () :=
  zMet_v (own := RX1) hE (by decide +kernel) rfl (Nat.le_of_ble_eq_true rfl) (fun p e s m args below meth c C hr hRm => wfX1_letBarrierArrive C hRm σ x0 x1 x2 X hf (fun pc lv hd => zfin_v (r := ()) C hr hd))
theorem dX1_letBarriersOvertake_0 : decode cX1_letBarriersOvertake 0 = .ok (.aload_n 0, 1) := by decide +kernel
theorem dX1_letBarriersOvertake_1 : decode cX1_letBarriersOvertake 1 = .ok (.getfield 37, 3) := by decide +kernel
theorem dX1_letBarriersOvertake_4 : decode cX1_letBarriersOvertake 4 = .ok (.invokevirtual 212, 3) := by decide +kernel
theorem dX1_letBarriersOvertake_7 : decode cX1_letBarriersOvertake 7 = .ok (.ifCond .ne 4, 3) := by decide +kernel
theorem dX1_letBarriersOvertake_10 : decode cX1_letBarriersOvertake 10 = .ok (.return_, 1) := by decide +kernel
theorem dX1_letBarriersOvertake_11 : decode cX1_letBarriersOvertake 11 = .ok (.iload_n 1, 1) := by decide +kernel
theorem dX1_letBarriersOvertake_12 : decode cX1_letBarriersOvertake 12 = .ok (.istore_n 3, 1) := by decide +kernel
theorem dX1_letBarriersOvertake_13 : decode cX1_letBarriersOvertake 13 = .ok (.iload_n 3, 1) := by decide +kernel
theorem dX1_letBarriersOvertake_14 : decode cX1_letBarriersOvertake 14 = .ok (.iload_n 1, 1) := by decide +kernel
theorem dX1_letBarriersOvertake_15 : decode cX1_letBarriersOvertake 15 = .ok (.iload_n 2, 1) := by decide +kernel
theorem dX1_letBarriersOvertake_16 : decode cX1_letBarriersOvertake 16 = .ok (.iadd, 1) := by decide +kernel
theorem dX1_letBarriersOvertake_17 : decode cX1_letBarriersOvertake 17 = .ok (.if_icmp .ge 50, 3) := by decide +kernel
theorem dX1_letBarriersOvertake_20 : decode cX1_letBarriersOvertake 20 = .ok (.iconst 0, 1) := by decide +kernel
theorem dX1_letBarriersOvertake_21 : decode cX1_letBarriersOvertake 21 = .ok (.istore 4, 2) := by decide +kernel
theorem dX1_letBarriersOvertake_23 : decode cX1_letBarriersOvertake 23 = .ok (.iload 4, 2) := by decide +kernel
theorem dX1_letBarriersOvertake_25 : decode cX1_letBarriersOvertake 25 = .ok (.aload_n 0, 1) := by decide +kernel
theorem dX1_letBarriersOvertake_26 : decode cX1_letBarriersOvertake 26 = .ok (.iload_n 3, 1) := by decide +kernel
theorem dX1_letBarriersOvertake_27 : decode cX1_letBarriersOvertake 27 = .ok (.invokevirtual 215, 3) := by decide +kernel
theorem dX1_letBarriersOvertake_30 : decode cX1_letBarriersOvertake 30 = .ok (.if_icmp .ge 31, 3) := by decide +kernel
theorem dX1_letBarriersOvertake_33 : decode cX1_letBarriersOvertake 33 = .ok (.aload_n 0, 1) := by decide +kernel
theorem dX1_letBarriersOvertake_34 : decode cX1_letBarriersOvertake 34 = .ok (.getfield 47, 3) := by decide +kernel
theorem dX1_letBarriersOvertake_37 : decode cX1_letBarriersOvertake 37 = .ok (.iload_n 3, 1) := by decide +kernel
theorem dX1_letBarriersOvertake_38 : decode cX1_letBarriersOvertake 38 = .ok (.iload 4, 2) := by decide +kernel
theorem dX1_letBarriersOvertake_40 : decode cX1_letBarriersOvertake 40 = .ok (.invokestatic 190, 3) := by decide +kernel
theorem dX1_letBarriersOvertake_43 : decode cX1_letBarriersOvertake 43 = .ok (.iaload, 1) := by decide +kernel
theorem dX1_letBarriersOvertake_44 : decode cX1_letBarriersOvertake 44 = .ok (.iconst (-1), 1) := by decide +kernel
theorem dX1_letBarriersOvertake_45 : decode cX1_letBarriersOvertake 45 = .ok (.if_icmp .eq 10, 3) := by decide +kernel
theorem dX1_letBarriersOvertake_48 : decode cX1_letBarriersOvertake 48 = .ok (.aload_n 0, 1) := by decide +kernel
theorem dX1_letBarriersOvertake_49 : decode cX1_letBarriersOvertake 49 = .ok (.iload_n 3, 1) := by decide +kernel
theorem dX1_letBarriersOvertake_50 : decode cX1_letBarriersOvertake 50 = .ok (.iload 4, 2) := by decide +kernel
theorem dX1_letBarriersOvertake_52 : decode cX1_letBarriersOvertake 52 = .ok (.invokevirtual 218, 3) := by decide +kernel
theorem dX1_letBarriersOvertake_55 : decode cX1_letBarriersOvertake 55 = .ok (.iinc 4 1, 3) := by decide +kernel
theorem dX1_letBarriersOvertake_58 : decode cX1_letBarriersOvertake 58 = .ok (.goto (-35), 3) := by decide +kernel
theorem dX1_letBarriersOvertake_61 : decode cX1_letBarriersOvertake 61 = .ok (.iinc 3 1, 3) := by decide +kernel
theorem dX1_letBarriersOvertake_64 : decode cX1_letBarriersOvertake 64 = .ok (.goto (-51), 3) := by decide +kernel
theorem dX1_letBarriersOvertake_67 : decode cX1_letBarriersOvertake 67 = .ok (.return_, 1) := by decide +kernel
theorem hyX1_letBarriersOvertake : yX1_letBarriersOvertake.cls ≠ "java/lang/invoke/MethodHandle" ∧ yX1_letBarriersOvertake.cls ≠ "java/lang/invoke/VarHandle" ∧ (parseMethodDescriptor yX1_letBarriersOvertake.desc).map (fun d => d.parameters.length) = some 2 := ⟨by decide +kernel, by decide +kernel, by decide +kernel⟩
def jX1_letBarriersOvertake_55_L23 (σ : zS) (x0 : Nat) (x1 : Int32) (x2 : Int32) (x3 : Int32) (x4 : Int32)  : Option ((zS × Int32) ⊕ zS) :=
  some (.inl (σ, x4 + 1))
set_option maxRecDepth 100000 in
set_option maxHeartbeats 4000000 in
theorem wjX1_letBarriersOvertake_55_L23 (C : zC p s m args meth c cX1_letBarriersOvertake RX1 5 D Ca B En) (hRm : zRm R 4 92 cells slots) (σ : zS) (x0 : Nat) (x1 : Int32) (x2 : Int32) (x3 : Int32) (x4 : Int32)  (y : (zS × Int32) ⊕ zS) (hf : jX1_letBarriersOvertake_55_L23 σ x0 x1 x2 x3 x4  = some y) (hk : (∀ z : (zS × Int32), y = .inl z → zW p l e R s m args below meth c cells slots Q D Ca B 5 z.1 N 23 [(0, .ref x0), (1, .int x1), (2, .int x2), (3, .int x3), (4, .int z.2)] []) ∧ (∀ z : zS, y = .inr z → zW p l e R s m args below meth c cells slots Q D Ca B 5 z N 61 [(0, .ref x0), (1, .int x1), (2, .int x2), (3, .int x3)] [])) : zW p l e R s m args below meth c cells slots Q D Ca B 5 σ N 55 [(0, .ref x0), (1, .int x1), (2, .int x2), (3, .int x3), (4, .int x4)] [] := by
  unfold jX1_letBarriersOvertake_55_L23 at hf
  refine z_iinc (lv2 := [(4, .int (x4 + 1)), (0, .ref x0), (1, .int x1), (2, .int x2), (3, .int x3)]) C (x4 + 1) dX1_letBarriersOvertake_55 4 rfl rfl (by decide) rfl ?_
  refine z_goto C 23 dX1_letBarriersOvertake_58 (by decide) ?_
  cases hf
  refine z_sub [1, 2, 3, 4, 0] rfl ?_
  exact hk.1 _ rfl

def sX1_letBarriersOvertake_23b (x0 : Nat) (x1 : Int32) (x2 : Int32) (x3 : Int32) (σ : zS) (u4 : Int32) : Option ((zS × Int32) ⊕ zS) :=
  (zck 1 σ x0 (fX1_sendersTo σ x0 x3)).bind fun c3 => (if c3.2 ≤ u4 then some (.inr c3.1) else (zgR 1 19 c3.1 x0).bind fun v4 => (fX9_channel c3.1 x3 u4).bind fun c5 => (zaI c5.1 v4 c5.2).bind fun v6 => (if v6 = ((-1)) then jX1_letBarriersOvertake_55_L23 c5.1 x0 x1 x2 x3 u4 else (zck 1 c5.1 x0 (fX1_letBarrierArrive c5.1 x0 x3 u4)).bind fun c7 => jX1_letBarriersOvertake_55_L23 c7 x0 x1 x2 x3 u4))
def sX1_letBarriersOvertake_23 (x0 : Nat) (x1 : Int32) (x2 : Int32) (x3 : Int32) (z : (zS × Int32)) : Option ((zS × Int32) ⊕ zS) := sX1_letBarriersOvertake_23b x0 x1 x2 x3 z.1 z.2
set_option maxRecDepth 100000 in
set_option maxHeartbeats 4000000 in
theorem wsX1_letBarriersOvertake_23b (C : zC p s m args meth c cX1_letBarriersOvertake RX1 5 D Ca B En) (hRm : zRm R 4 92 cells slots) (x0 : Nat) (x1 : Int32) (x2 : Int32) (x3 : Int32) (σ : zS) (u4 : Int32) (y : (zS × Int32) ⊕ zS) (hf : sX1_letBarriersOvertake_23b x0 x1 x2 x3 σ u4 = some y) (hk : (∀ z : (zS × Int32), y = .inl z → zW p l e R s m args below meth c cells slots Q D Ca B 5 z.1 N 23 [(0, .ref x0), (1, .int x1), (2, .int x2), (3, .int x3), (4, .int z.2)] []) ∧ (∀ z : zS, y = .inr z → zW p l e R s m args below meth c cells slots Q D Ca B 5 z N 61 [(0, .ref x0), (1, .int x1), (2, .int x2), (3, .int x3)] [])) : zW p l e R s m args below meth c cells slots Q D Ca B 5 σ N 23 [(0, .ref x0), (1, .int x1), (2, .int x2), (3, .int x3), (4, .int u4)] [] := by
  unfold sX1_letBarriersOvertake_23b at hf
  refine z_iload C dX1_letBarriersOvertake_23 4 rfl ?_
  refine z_aload_n C dX1_letBarriersOvertake_25 rfl 0 rfl ?_
  refine z_iload_n C dX1_letBarriersOvertake_26 rfl 3 rfl ?_
  obtain ⟨c3, hc3, hf⟩ := zbind hf
  obtain ⟨kc3, hc3⟩ := zck_ok hc3
  refine z_callVi (As := [.int x3]) (F0 := 4) (L0 := 92) C (mX1_sendersTo l D Ca B En C.2.2.2.2.2.2.2.1 σ N x0 x3 _ hc3) hRm kc3 rfl kw_771 kw_8 kw_768 kw_770 kp_21 hyX1_sendersTo (Nat.le_of_ble_eq_true rfl) (Nat.le_of_ble_eq_true rfl) rfl rfl (Nat.le_of_ble_eq_true rfl) dX1_letBarriersOvertake_27 ?_
  refine z_icmp_ge C 61 dX1_letBarriersOvertake_30 (by decide) (fun q9 => ?_) (fun q9 => ?_)
  · rw [if_pos q9] at hf
    cases hf
    refine z_sub [0, 1, 2, 3] rfl ?_
    exact hk.2 _ rfl
  · rw [if_neg q9] at hf
    refine z_aload_n C dX1_letBarriersOvertake_33 rfl 0 rfl ?_
    obtain ⟨v4, hv4, hf⟩ := zbind hf
    refine gf_RX1_47 C hv4 dX1_letBarriersOvertake_34 ?_
    refine z_iload_n C dX1_letBarriersOvertake_37 rfl 3 rfl ?_
    refine z_iload C dX1_letBarriersOvertake_38 4 rfl ?_
    obtain ⟨c5, hc5, hf⟩ := zbind hf
    refine z_callSNi (host := "BarrierFlow") (As := [.int x3, .int u4]) (F0 := 4) (L0 := 92) C (mX9_channel l D Ca B En C.2.2.2.2.2.2.2.1 c3.1 N x3 u4 _ hc5) hRm kw_686 kw_1 (by decide) kw_685 hyX9_channel (Nat.le_of_ble_eq_true rfl) (Nat.le_of_ble_eq_true rfl) rfl rfl (Nat.le_of_ble_eq_true rfl) dX1_letBarriersOvertake_40 ?_
    obtain ⟨v6, hv6, hf⟩ := zbind hf
    refine z_aI C hv6 dX1_letBarriersOvertake_43 ?_
    refine z_iconst C (-1) dX1_letBarriersOvertake_44 (by decide) ?_
    refine z_icmp_eq C 55 dX1_letBarriersOvertake_45 (by decide) (fun q8 => ?_) (fun q8 => ?_)
    · rw [if_pos q8] at hf
      refine z_sub [0, 1, 2, 3, 4] rfl ?_
      exact wjX1_letBarriersOvertake_55_L23 C hRm _ _ _ _ _ _  _ hf hk
    · rw [if_neg q8] at hf
      refine z_aload_n C dX1_letBarriersOvertake_48 rfl 0 rfl ?_
      refine z_iload_n C dX1_letBarriersOvertake_49 rfl 3 rfl ?_
      refine z_iload C dX1_letBarriersOvertake_50 4 rfl ?_
      obtain ⟨c7, hc7, hf⟩ := zbind hf
      obtain ⟨kc7, hc7⟩ := zck_ok hc7
      refine z_callVv (As := [.int x3, .int u4]) (F0 := 4) (L0 := 92) C (mX1_letBarrierArrive l D Ca B En C.2.2.2.2.2.2.2.1 c5.1 N x0 x3 u4 _ hc7) hRm kc7 rfl kw_775 kw_8 kw_772 kw_774 kp_22 hyX1_letBarrierArrive (Nat.le_of_ble_eq_true rfl) (Nat.le_of_ble_eq_true rfl) rfl rfl (Nat.le_of_ble_eq_true rfl) dX1_letBarriersOvertake_52 ?_
      refine z_sub [0, 1, 2, 3, 4] rfl ?_
      exact wjX1_letBarriersOvertake_55_L23 C hRm _ _ _ _ _ _  _ hf hk

theorem wsX1_letBarriersOvertake_23 (C : zC p s m args meth c cX1_letBarriersOvertake RX1 5 D Ca B En) (hRm : zRm R 4 92 cells slots) (x0 : Nat) (x1 : Int32) (x2 : Int32) (x3 : Int32) (n : Nat) (z : (zS × Int32)) (x : zS) (hf : zloop (sX1_letBarriersOvertake_23 x0 x1 x2 x3) n z = some x) (hk : (∀ o : zS, x = o → zW p l e R s m args below meth c cells slots Q D Ca B 5 o N 61 [(0, .ref x0), (1, .int x1), (2, .int x2), (3, .int x3)] [])) : zW p l e R s m args below meth c cells slots Q D Ca B 5 z.1 N 23 [(0, .ref x0), (1, .int x1), (2, .int x2), (3, .int x3), (4, .int z.2)] [] := by
  refine zloop_W (P := fun z : (zS × Int32) => zW p l e R s m args below meth c cells slots Q D Ca B 5 z.1 N 23 [(0, .ref x0), (1, .int x1), (2, .int x2), (3, .int x3), (4, .int z.2)] []) (K := fun x : zS => (∀ o : zS, x = o → zW p l e R s m args below meth c cells slots Q D Ca B 5 o N 61 [(0, .ref x0), (1, .int x1), (2, .int x2), (3, .int x3)] [])) ?_ n z x hf hk
  intro z y hy h1 h2
  refine wsX1_letBarriersOvertake_23b C hRm x0 x1 x2 x3 z.1 z.2 y hy ⟨fun z2 e => h1 z2 e, fun o e => (h2 _ e) o rfl⟩
def sX1_letBarriersOvertake_13b (x0 : Nat) (x1 : Int32) (x2 : Int32) (σ : zS) (u3 : Int32) : Option ((zS × Int32) ⊕ zS) :=
  (if (x1 + x2) ≤ u3 then some (.inr σ) else (zloop (sX1_letBarriersOvertake_23 x0 x1 x2 u3) zfuel (σ, 0)).bind fun o10 => some (.inl (o10, u3 + 1)))
def sX1_letBarriersOvertake_13 (x0 : Nat) (x1 : Int32) (x2 : Int32) (z : (zS × Int32)) : Option ((zS × Int32) ⊕ zS) := sX1_letBarriersOvertake_13b x0 x1 x2 z.1 z.2
set_option maxRecDepth 100000 in
set_option maxHeartbeats 4000000 in
theorem wsX1_letBarriersOvertake_13b (C : zC p s m args meth c cX1_letBarriersOvertake RX1 5 D Ca B En) (hRm : zRm R 4 92 cells slots) (x0 : Nat) (x1 : Int32) (x2 : Int32) (σ : zS) (u3 : Int32) (y : (zS × Int32) ⊕ zS) (hf : sX1_letBarriersOvertake_13b x0 x1 x2 σ u3 = some y) (hk : (∀ z : (zS × Int32), y = .inl z → zW p l e R s m args below meth c cells slots Q D Ca B 5 z.1 N 13 [(0, .ref x0), (1, .int x1), (2, .int x2), (3, .int z.2)] []) ∧ (∀ z : zS, y = .inr z → zW p l e R s m args below meth c cells slots Q D Ca B 5 z N 67 [] [])) : zW p l e R s m args below meth c cells slots Q D Ca B 5 σ N 13 [(0, .ref x0), (1, .int x1), (2, .int x2), (3, .int u3)] [] := by
  unfold sX1_letBarriersOvertake_13b at hf
  refine z_iload_n C dX1_letBarriersOvertake_13 rfl 3 rfl ?_
  refine z_iload_n C dX1_letBarriersOvertake_14 rfl 1 rfl ?_
  refine z_iload_n C dX1_letBarriersOvertake_15 rfl 2 rfl ?_
  refine z_iadd C dX1_letBarriersOvertake_16 ?_
  refine z_icmp_ge C 67 dX1_letBarriersOvertake_17 (by decide) (fun q11 => ?_) (fun q11 => ?_)
  · rw [if_pos q11] at hf
    cases hf
    refine z_sub [] rfl ?_
    exact hk.2 _ rfl
  · rw [if_neg q11] at hf
    refine z_iconst C 0 dX1_letBarriersOvertake_20 (by decide) ?_
    refine z_istore (lv2 := [(4, .int 0), (0, .ref x0), (1, .int x1), (2, .int x2), (3, .int u3)]) C dX1_letBarriersOvertake_21 (by decide) rfl ?_
    obtain ⟨o10, ho10, hf⟩ := zbind hf
    refine z_sub [1, 2, 3, 4, 0] rfl ?_
    refine wsX1_letBarriersOvertake_23 C hRm _ _ _ _ zfuel (σ, 0) o10 ho10 ?_
    intro z9 e9
    subst e9
    refine z_iinc (lv2 := [(3, .int (u3 + 1)), (0, .ref x0), (1, .int x1), (2, .int x2)]) C (u3 + 1) dX1_letBarriersOvertake_61 3 rfl rfl (by decide) rfl ?_
    refine z_goto C 13 dX1_letBarriersOvertake_64 (by decide) ?_
    cases hf
    refine z_sub [1, 2, 3, 0] rfl ?_
    exact hk.1 _ rfl

theorem wsX1_letBarriersOvertake_13 (C : zC p s m args meth c cX1_letBarriersOvertake RX1 5 D Ca B En) (hRm : zRm R 4 92 cells slots) (x0 : Nat) (x1 : Int32) (x2 : Int32) (n : Nat) (z : (zS × Int32)) (x : zS) (hf : zloop (sX1_letBarriersOvertake_13 x0 x1 x2) n z = some x) (hk : (∀ o : zS, x = o → zW p l e R s m args below meth c cells slots Q D Ca B 5 o N 67 [] [])) : zW p l e R s m args below meth c cells slots Q D Ca B 5 z.1 N 13 [(0, .ref x0), (1, .int x1), (2, .int x2), (3, .int z.2)] [] := by
  refine zloop_W (P := fun z : (zS × Int32) => zW p l e R s m args below meth c cells slots Q D Ca B 5 z.1 N 13 [(0, .ref x0), (1, .int x1), (2, .int x2), (3, .int z.2)] []) (K := fun x : zS => (∀ o : zS, x = o → zW p l e R s m args below meth c cells slots Q D Ca B 5 o N 67 [] [])) ?_ n z x hf hk
  intro z y hy h1 h2
  refine wsX1_letBarriersOvertake_13b C hRm x0 x1 x2 z.1 z.2 y hy ⟨fun z2 e => h1 z2 e, fun o e => (h2 _ e) o rfl⟩
def fX1_letBarriersOvertake (σ : zS) (x0 : Nat) (x1 : Int32) (x2 : Int32) : Option zS :=
  (zgR 1 15 σ x0).bind fun v1 => (zck 0 σ v1 (fX0_isOvertaking σ v1 )).bind fun c2 => (if c2.2 = 0 then some c2.1 else (zloop (sX1_letBarriersOvertake_13 x0 x1 x2) zfuel (c2.1, x1)).bind fun o12 => some o12)
set_option maxRecDepth 100000 in
set_option maxHeartbeats 4000000 in
theorem wfX1_letBarriersOvertake (C : zC p s m args meth c cX1_letBarriersOvertake RX1 5 D Ca B En) (hRm : zRm R 4 92 cells slots) (σ : zS) (x0 : Nat) (x1 : Int32) (x2 : Int32) (τ : zS) (hf : fX1_letBarriersOvertake σ x0 x1 x2 = some τ) (hq : ∀ (pc : Nat) (lv : List (Nat × Value)), decode cX1_letBarriersOvertake pc = .ok (.return_, 1) → zW p l e R s m args below meth c cells slots Q D Ca B 5 τ N pc lv []) : zW p l e R s m args below meth c cells slots Q D Ca B 5 σ N 0 [(0, .ref x0), (1, .int x1), (2, .int x2)] [] := by
  unfold fX1_letBarriersOvertake at hf
  refine z_aload_n C dX1_letBarriersOvertake_0 rfl 0 rfl ?_
  obtain ⟨v1, hv1, hf⟩ := zbind hf
  refine gf_RX1_37 C hv1 dX1_letBarriersOvertake_1 ?_
  obtain ⟨c2, hc2, hf⟩ := zbind hf
  obtain ⟨kc2, hc2⟩ := zck_ok hc2
  refine z_callVi (As := []) (F0 := 4) (L0 := 92) C (mX0_isOvertaking l D Ca B En C.2.2.2.2.2.2.2.1 σ N v1  _ hc2) hRm kc2 rfl kw_766 kw_10 kw_763 kw_764 kw_765 hyX0_isOvertaking (Nat.le_of_ble_eq_true rfl) (Nat.le_of_ble_eq_true rfl) rfl rfl (Nat.le_of_ble_eq_true rfl) dX1_letBarriersOvertake_4 ?_
  refine z_if_ne C 11 dX1_letBarriersOvertake_7 (by decide) (fun q13 => ?_) (fun q13 => ?_)
  · rw [if_neg q13] at hf
    refine z_iload_n C dX1_letBarriersOvertake_11 rfl 1 rfl ?_
    refine z_istore_n (lv2 := [(3, .int x1), (0, .ref x0), (1, .int x1), (2, .int x2)]) C dX1_letBarriersOvertake_12 rfl (by decide) rfl ?_
    obtain ⟨o12, ho12, hf⟩ := zbind hf
    refine z_sub [1, 2, 3, 0] rfl ?_
    refine wsX1_letBarriersOvertake_13 C hRm _ _ _ zfuel (c2.1, x1) o12 ho12 ?_
    intro z9 e9
    subst e9
    cases hf
    exact hq _ _ dX1_letBarriersOvertake_67
  · rw [if_pos q13] at hf
    cases hf
    exact hq _ _ dX1_letBarriersOvertake_10

theorem mX1_letBarriersOvertake (l : Launch) (D : va_G) (Ca : Nat → ClassId) (B : Nat) (En : State → Prop) (hE : zEk B En) (σ : zS) (N : Nat) (x0 : Nat) (x1 : Int32) (x2 : Int32) (X : zS) (hf : fX1_letBarriersOvertake σ x0 x1 x2 = some X) : zMv l D Ca B En yX1_letBarriersOvertake cX1_letBarriersOvertake 5 (Option.none : Option Jvm.ClassFile.FieldType) 4 92 [.ref x0, .int x1, .int x2] σ N X () :=
  zMet_v (own := RX1) hE (by decide +kernel) rfl (Nat.le_of_ble_eq_true rfl) (fun p e s m args below meth c C hr hRm => wfX1_letBarriersOvertake C hRm σ x0 x1 x2 X hf (fun pc lv hd => zfin_v (r := ()) C hr hd))
theorem dX7_sinkOf_0 : decode cX7_sinkOf 0 = .ok (.aload_n 0, 1) := by decide +kernel
theorem dX7_sinkOf_1 : decode cX7_sinkOf 1 = .ok (.getfield 64, 3) := by decide +kernel
theorem dX7_sinkOf_4 : decode cX7_sinkOf 4 = .ok (.iconst 1, 1) := by decide +kernel
theorem dX7_sinkOf_5 : decode cX7_sinkOf 5 = .ok (.if_icmp .ge 7, 3) := by decide +kernel
theorem dX7_sinkOf_8 : decode cX7_sinkOf 8 = .ok (.iconst 0, 1) := by decide +kernel
theorem dX7_sinkOf_9 : decode cX7_sinkOf 9 = .ok (.goto 11, 3) := by decide +kernel
theorem dX7_sinkOf_12 : decode cX7_sinkOf 12 = .ok (.iload_n 1, 1) := by decide +kernel
theorem dX7_sinkOf_13 : decode cX7_sinkOf 13 = .ok (.iconst 4, 1) := by decide +kernel
theorem dX7_sinkOf_14 : decode cX7_sinkOf 14 = .ok (.idiv, 1) := by decide +kernel
theorem dX7_sinkOf_15 : decode cX7_sinkOf 15 = .ok (.aload_n 0, 1) := by decide +kernel
theorem dX7_sinkOf_16 : decode cX7_sinkOf 16 = .ok (.getfield 64, 3) := by decide +kernel
theorem dX7_sinkOf_19 : decode cX7_sinkOf 19 = .ok (.irem, 1) := by decide +kernel
theorem dX7_sinkOf_20 : decode cX7_sinkOf 20 = .ok (.ireturn, 1) := by decide +kernel
theorem hyX7_sinkOf : yX7_sinkOf.cls ≠ "java/lang/invoke/MethodHandle" ∧ yX7_sinkOf.cls ≠ "java/lang/invoke/VarHandle" ∧ (parseMethodDescriptor yX7_sinkOf.desc).map (fun d => d.parameters.length) = some 1 := ⟨by decide +kernel, by decide +kernel, by decide +kernel⟩
def fX7_sinkOf (σ : zS) (x0 : Nat) (x1 : Int32) : Option (zS × Int32) :=
  (zgI 7 1 σ x0).bind fun v1 => (if 1 ≤ v1 then (zgI 7 1 σ x0).bind fun v2 => (znz v2).bind fun d3 => some (σ, (x1 / 4) - (x1 / 4) / v2 * v2) else some (σ, 0))
set_option maxRecDepth 100000 in
set_option maxHeartbeats 4000000 in
theorem wfX7_sinkOf (C : zC p s m args meth c cX7_sinkOf RX7 2 D Ca B En) (hRm : zRm R 0 0 cells slots) (σ : zS) (x0 : Nat) (x1 : Int32) (τ : zS) (r : Int32) (hf : fX7_sinkOf σ x0 x1 = some (τ, r)) (hq : ∀ (pc : Nat) (lv : List (Nat × Value)), decode cX7_sinkOf pc = .ok (.ireturn, 1) → zW p l e R s m args below meth c cells slots Q D Ca B 2 τ N pc lv [.int r]) : zW p l e R s m args below meth c cells slots Q D Ca B 2 σ N 0 [(0, .ref x0), (1, .int x1)] [] := by
  unfold fX7_sinkOf at hf
  refine z_aload_n C dX7_sinkOf_0 rfl 0 rfl ?_
  obtain ⟨v1, hv1, hf⟩ := zbind hf
  refine gf_RX7_64 C hv1 dX7_sinkOf_1 ?_
  refine z_iconst C 1 dX7_sinkOf_4 (by decide) ?_
  refine z_icmp_ge C 12 dX7_sinkOf_5 (by decide) (fun q4 => ?_) (fun q4 => ?_)
  · rw [if_pos q4] at hf
    refine z_iload_n C dX7_sinkOf_12 rfl 1 rfl ?_
    refine z_iconst C 4 dX7_sinkOf_13 (by decide) ?_
    refine z_idiv C dX7_sinkOf_14 (by decide) ?_
    refine z_aload_n C dX7_sinkOf_15 rfl 0 rfl ?_
    obtain ⟨v2, hv2, hf⟩ := zbind hf
    refine gf_RX7_64 C hv2 dX7_sinkOf_16 ?_
    obtain ⟨d3, hd3, hf⟩ := zbind hf
    refine z_irem C dX7_sinkOf_19 (znz_ok hd3) ?_
    cases hf
    exact hq _ _ dX7_sinkOf_20
  · rw [if_neg q4] at hf
    refine z_iconst C 0 dX7_sinkOf_8 (by decide) ?_
    refine z_goto C 20 dX7_sinkOf_9 (by decide) ?_
    cases hf
    exact hq _ _ dX7_sinkOf_20

theorem mX7_sinkOf (l : Launch) (D : va_G) (Ca : Nat → ClassId) (B : Nat) (En : State → Prop) (hE : zEk B En) (σ : zS) (N : Nat) (x0 : Nat) (x1 : Int32) (X : zS × Int32) (hf : fX7_sinkOf σ x0 x1 = some X) : zMi l D Ca B En yX7_sinkOf cX7_sinkOf 2 (Option.some Jvm.ClassFile.FieldType.int) 0 0 [.ref x0, .int x1] σ N X.1 X.2 :=
  zMet_i (own := RX7) hE (by decide +kernel) rfl (Nat.le_of_ble_eq_true rfl) (fun p e s m args below meth c C hr hRm => wfX7_sinkOf C hRm σ x0 x1 X.1 X.2 hf (fun pc lv hd => zfin_i C hr hd))
theorem dX1_channelForResult_0 : decode cX1_channelForResult 0 = .ok (.iconst 4, 1) := by decide +kernel
theorem dX1_channelForResult_1 : decode cX1_channelForResult 1 = .ok (.aload_n 0, 1) := by decide +kernel
theorem dX1_channelForResult_2 : decode cX1_channelForResult 2 = .ok (.getfield 54, 3) := by decide +kernel
theorem dX1_channelForResult_5 : decode cX1_channelForResult 5 = .ok (.aload_n 0, 1) := by decide +kernel
theorem dX1_channelForResult_6 : decode cX1_channelForResult 6 = .ok (.getfield 54, 3) := by decide +kernel
theorem dX1_channelForResult_9 : decode cX1_channelForResult 9 = .ok (.iload_n 2, 1) := by decide +kernel
theorem dX1_channelForResult_10 : decode cX1_channelForResult 10 = .ok (.invokevirtual 203, 3) := by decide +kernel
theorem dX1_channelForResult_13 : decode cX1_channelForResult 13 = .ok (.invokevirtual 231, 3) := by decide +kernel
theorem dX1_channelForResult_16 : decode cX1_channelForResult 16 = .ok (.iadd, 1) := by decide +kernel
theorem dX1_channelForResult_17 : decode cX1_channelForResult 17 = .ok (.iload_n 1, 1) := by decide +kernel
theorem dX1_channelForResult_18 : decode cX1_channelForResult 18 = .ok (.invokestatic 190, 3) := by decide +kernel
theorem dX1_channelForResult_21 : decode cX1_channelForResult 21 = .ok (.ireturn, 1) := by decide +kernel
theorem hyX1_channelForResult : yX1_channelForResult.cls ≠ "java/lang/invoke/MethodHandle" ∧ yX1_channelForResult.cls ≠ "java/lang/invoke/VarHandle" ∧ (parseMethodDescriptor yX1_channelForResult.desc).map (fun d => d.parameters.length) = some 2 := ⟨by decide +kernel, by decide +kernel, by decide +kernel⟩
def fX1_channelForResult (σ : zS) (x0 : Nat) (x1 : Int32) (x2 : Int32) : Option (zS × Int32) :=
  (zgR 1 17 σ x0).bind fun v1 => (zgR 1 17 σ x0).bind fun v2 => (zck 7 σ v2 (fX7_keyOf σ v2 x2)).bind fun c3 => (zck 7 c3.1 v1 (fX7_sinkOf c3.1 v1 c3.2)).bind fun c4 => (fX9_channel c4.1 (4 + c4.2) x1).bind fun c5 => some (c5.1, c5.2)
set_option maxRecDepth 100000 in
set_option maxHeartbeats 4000000 in
theorem wfX1_channelForResult (C : zC p s m args meth c cX1_channelForResult RX1 3 D Ca B En) (hRm : zRm R 1 21 cells slots) (σ : zS) (x0 : Nat) (x1 : Int32) (x2 : Int32) (τ : zS) (r : Int32) (hf : fX1_channelForResult σ x0 x1 x2 = some (τ, r)) (hq : ∀ (pc : Nat) (lv : List (Nat × Value)), decode cX1_channelForResult pc = .ok (.ireturn, 1) → zW p l e R s m args below meth c cells slots Q D Ca B 3 τ N pc lv [.int r]) : zW p l e R s m args below meth c cells slots Q D Ca B 3 σ N 0 [(0, .ref x0), (1, .int x1), (2, .int x2)] [] := by
  unfold fX1_channelForResult at hf
  refine z_iconst C 4 dX1_channelForResult_0 (by decide) ?_
  refine z_aload_n C dX1_channelForResult_1 rfl 0 rfl ?_
  obtain ⟨v1, hv1, hf⟩ := zbind hf
  refine gf_RX1_54 C hv1 dX1_channelForResult_2 ?_
  refine z_aload_n C dX1_channelForResult_5 rfl 0 rfl ?_
  obtain ⟨v2, hv2, hf⟩ := zbind hf
  refine gf_RX1_54 C hv2 dX1_channelForResult_6 ?_
  refine z_iload_n C dX1_channelForResult_9 rfl 2 rfl ?_
  obtain ⟨c3, hc3, hf⟩ := zbind hf
  obtain ⟨kc3, hc3⟩ := zck_ok hc3
  refine z_callVi (As := [.int x2]) (F0 := 1) (L0 := 21) C (mX7_keyOf l D Ca B En C.2.2.2.2.2.2.2.1 σ N v2 x2 _ hc3) hRm kc3 rfl kw_755 kw_5 kw_752 kw_753 kw_754 hyX7_keyOf (Nat.le_of_ble_eq_true rfl) (Nat.le_of_ble_eq_true rfl) rfl rfl (Nat.le_of_ble_eq_true rfl) dX1_channelForResult_10 ?_
  obtain ⟨c4, hc4, hf⟩ := zbind hf
  obtain ⟨kc4, hc4⟩ := zck_ok hc4
  refine z_callVi (As := [.int c3.2]) (F0 := 1) (L0 := 21) C (mX7_sinkOf l D Ca B En C.2.2.2.2.2.2.2.1 c3.1 N v1 c3.2 _ hc4) hRm kc4 rfl kw_805 kw_5 kw_802 kw_803 kw_804 hyX7_sinkOf (Nat.le_of_ble_eq_true rfl) (Nat.le_of_ble_eq_true rfl) rfl rfl (Nat.le_of_ble_eq_true rfl) dX1_channelForResult_13 ?_
  refine z_iadd C dX1_channelForResult_16 ?_
  refine z_iload_n C dX1_channelForResult_17 rfl 1 rfl ?_
  obtain ⟨c5, hc5, hf⟩ := zbind hf
  refine z_callSNi (host := "BarrierFlow") (As := [.int (4 + c4.2), .int x1]) (F0 := 1) (L0 := 21) C (mX9_channel l D Ca B En C.2.2.2.2.2.2.2.1 c4.1 N (4 + c4.2) x1 _ hc5) hRm kw_686 kw_1 (by decide) kw_685 hyX9_channel (Nat.le_of_ble_eq_true rfl) (Nat.le_of_ble_eq_true rfl) rfl rfl (Nat.le_of_ble_eq_true rfl) dX1_channelForResult_18 ?_
  cases hf
  exact hq _ _ dX1_channelForResult_21

theorem mX1_channelForResult (l : Launch) (D : va_G) (Ca : Nat → ClassId) (B : Nat) (En : State → Prop) (hE : zEk B En) (σ : zS) (N : Nat) (x0 : Nat) (x1 : Int32) (x2 : Int32) (X : zS × Int32) (hf : fX1_channelForResult σ x0 x1 x2 = some X) : zMi l D Ca B En yX1_channelForResult cX1_channelForResult 3 (Option.some Jvm.ClassFile.FieldType.int) 1 21 [.ref x0, .int x1, .int x2] σ N X.1 X.2 :=
  zMet_i (own := RX1) hE (by decide +kernel) rfl (Nat.le_of_ble_eq_true rfl) (fun p e s m args below meth c C hr hRm => wfX1_channelForResult C hRm σ x0 x1 x2 X.1 X.2 hf (fun pc lv hd => zfin_i C hr hd))
theorem dX1_canBeTaken_0 : decode cX1_canBeTaken 0 = .ok (.iload_n 1, 1) := by decide +kernel
theorem dX1_canBeTaken_1 : decode cX1_canBeTaken 1 = .ok (.iload_n 2, 1) := by decide +kernel
theorem dX1_canBeTaken_2 : decode cX1_canBeTaken 2 = .ok (.invokestatic 190, 3) := by decide +kernel
theorem dX1_canBeTaken_5 : decode cX1_canBeTaken 5 = .ok (.istore_n 3, 1) := by decide +kernel
theorem dX1_canBeTaken_6 : decode cX1_canBeTaken 6 = .ok (.aload_n 0, 1) := by decide +kernel
theorem dX1_canBeTaken_7 : decode cX1_canBeTaken 7 = .ok (.getfield 24, 3) := by decide +kernel
theorem dX1_canBeTaken_10 : decode cX1_canBeTaken 10 = .ok (.iload_n 1, 1) := by decide +kernel
theorem dX1_canBeTaken_11 : decode cX1_canBeTaken 11 = .ok (.iaload, 1) := by decide +kernel
theorem dX1_canBeTaken_12 : decode cX1_canBeTaken 12 = .ok (.iload_n 2, 1) := by decide +kernel
theorem dX1_canBeTaken_13 : decode cX1_canBeTaken 13 = .ok (.ishr, 1) := by decide +kernel
theorem dX1_canBeTaken_14 : decode cX1_canBeTaken 14 = .ok (.iconst 1, 1) := by decide +kernel
theorem dX1_canBeTaken_15 : decode cX1_canBeTaken 15 = .ok (.iand, 1) := by decide +kernel
theorem dX1_canBeTaken_16 : decode cX1_canBeTaken 16 = .ok (.iconst 1, 1) := by decide +kernel
theorem dX1_canBeTaken_17 : decode cX1_canBeTaken 17 = .ok (.if_icmp .ne 5, 3) := by decide +kernel
theorem dX1_canBeTaken_20 : decode cX1_canBeTaken 20 = .ok (.iconst 0, 1) := by decide +kernel
theorem dX1_canBeTaken_21 : decode cX1_canBeTaken 21 = .ok (.ireturn, 1) := by decide +kernel
theorem dX1_canBeTaken_22 : decode cX1_canBeTaken 22 = .ok (.aload_n 0, 1) := by decide +kernel
theorem dX1_canBeTaken_23 : decode cX1_canBeTaken 23 = .ok (.getfield 47, 3) := by decide +kernel
theorem dX1_canBeTaken_26 : decode cX1_canBeTaken 26 = .ok (.iload_n 3, 1) := by decide +kernel
theorem dX1_canBeTaken_27 : decode cX1_canBeTaken 27 = .ok (.iaload, 1) := by decide +kernel
theorem dX1_canBeTaken_28 : decode cX1_canBeTaken 28 = .ok (.ifCond .ne 5, 3) := by decide +kernel
theorem dX1_canBeTaken_31 : decode cX1_canBeTaken 31 = .ok (.iconst 1, 1) := by decide +kernel
theorem dX1_canBeTaken_32 : decode cX1_canBeTaken 32 = .ok (.ireturn, 1) := by decide +kernel
theorem dX1_canBeTaken_33 : decode cX1_canBeTaken 33 = .ok (.aload_n 0, 1) := by decide +kernel
theorem dX1_canBeTaken_34 : decode cX1_canBeTaken 34 = .ok (.getfield 30, 3) := by decide +kernel
theorem dX1_canBeTaken_37 : decode cX1_canBeTaken 37 = .ok (.iload_n 3, 1) := by decide +kernel
theorem dX1_canBeTaken_38 : decode cX1_canBeTaken 38 = .ok (.invokevirtual 194, 3) := by decide +kernel
theorem dX1_canBeTaken_41 : decode cX1_canBeTaken 41 = .ok (.ifCond .ne 5, 3) := by decide +kernel
theorem dX1_canBeTaken_44 : decode cX1_canBeTaken 44 = .ok (.iconst 0, 1) := by decide +kernel
theorem dX1_canBeTaken_45 : decode cX1_canBeTaken 45 = .ok (.ireturn, 1) := by decide +kernel
theorem dX1_canBeTaken_46 : decode cX1_canBeTaken 46 = .ok (.iload_n 1, 1) := by decide +kernel
theorem dX1_canBeTaken_47 : decode cX1_canBeTaken 47 = .ok (.iconst 4, 1) := by decide +kernel
theorem dX1_canBeTaken_48 : decode cX1_canBeTaken 48 = .ok (.if_icmp .ge 30, 3) := by decide +kernel
theorem dX1_canBeTaken_51 : decode cX1_canBeTaken 51 = .ok (.aload_n 0, 1) := by decide +kernel
theorem dX1_canBeTaken_52 : decode cX1_canBeTaken 52 = .ok (.getfield 30, 3) := by decide +kernel
theorem dX1_canBeTaken_55 : decode cX1_canBeTaken 55 = .ok (.aload_n 0, 1) := by decide +kernel
theorem dX1_canBeTaken_56 : decode cX1_canBeTaken 56 = .ok (.iload_n 1, 1) := by decide +kernel
theorem dX1_canBeTaken_57 : decode cX1_canBeTaken 57 = .ok (.aload_n 0, 1) := by decide +kernel
theorem dX1_canBeTaken_58 : decode cX1_canBeTaken 58 = .ok (.getfield 30, 3) := by decide +kernel
theorem dX1_canBeTaken_61 : decode cX1_canBeTaken 61 = .ok (.iload_n 3, 1) := by decide +kernel
theorem dX1_canBeTaken_62 : decode cX1_canBeTaken 62 = .ok (.invokevirtual 225, 3) := by decide +kernel
theorem dX1_canBeTaken_65 : decode cX1_canBeTaken 65 = .ok (.invokevirtual 228, 3) := by decide +kernel
theorem dX1_canBeTaken_68 : decode cX1_canBeTaken 68 = .ok (.invokevirtual 194, 3) := by decide +kernel
theorem dX1_canBeTaken_71 : decode cX1_canBeTaken 71 = .ok (.aload_n 0, 1) := by decide +kernel
theorem dX1_canBeTaken_72 : decode cX1_canBeTaken 72 = .ok (.getfield 77, 3) := by decide +kernel
theorem dX1_canBeTaken_75 : decode cX1_canBeTaken 75 = .ok (.if_icmp .ge 7, 3) := by decide +kernel
theorem dX1_canBeTaken_78 : decode cX1_canBeTaken 78 = .ok (.iconst 1, 1) := by decide +kernel
theorem dX1_canBeTaken_79 : decode cX1_canBeTaken 79 = .ok (.goto 4, 3) := by decide +kernel
theorem dX1_canBeTaken_82 : decode cX1_canBeTaken 82 = .ok (.iconst 0, 1) := by decide +kernel
theorem dX1_canBeTaken_83 : decode cX1_canBeTaken 83 = .ok (.ireturn, 1) := by decide +kernel
theorem hyX1_canBeTaken : yX1_canBeTaken.cls ≠ "java/lang/invoke/MethodHandle" ∧ yX1_canBeTaken.cls ≠ "java/lang/invoke/VarHandle" ∧ (parseMethodDescriptor yX1_canBeTaken.desc).map (fun d => d.parameters.length) = some 2 := ⟨by decide +kernel, by decide +kernel, by decide +kernel⟩
def jX1_canBeTaken_78 (σ : zS)   : Option (zS × Int32) :=
  zrZ σ 1
set_option maxRecDepth 100000 in
set_option maxHeartbeats 4000000 in
theorem wjX1_canBeTaken_78 (C : zC p s m args meth c cX1_canBeTaken RX1 4 D Ca B En) (hRm : zRm R 2 43 cells slots) (σ : zS)   (τ : zS) (r : Int32) (hf : jX1_canBeTaken_78 σ   = some (τ, r)) (hq : ∀ (pc : Nat) (lv : List (Nat × Value)), (r = 0 ∨ r = 1) → decode cX1_canBeTaken pc = .ok (.ireturn, 1) → zW p l e R s m args below meth c cells slots Q D Ca B 4 τ N pc lv [.int r]) : zW p l e R s m args below meth c cells slots Q D Ca B 4 σ N 78 [] [] := by
  unfold jX1_canBeTaken_78 at hf
  refine z_iconst C 1 dX1_canBeTaken_78 (by decide) ?_
  refine z_goto C 83 dX1_canBeTaken_79 (by decide) ?_
  obtain ⟨e9, b9⟩ := zrZ_ok hf
  cases e9
  exact hq _ _ b9 dX1_canBeTaken_83

def fX1_canBeTaken (σ : zS) (x0 : Nat) (x1 : Int32) (x2 : Int32) : Option (zS × Int32) :=
  (fX9_channel σ x1 x2).bind fun c1 => (zgR 1 13 c1.1 x0).bind fun v2 => (zaI c1.1 v2 x1).bind fun v3 => (if ((v3 >>> (x2 &&& 31)) &&& 1) = 1 then zrZ c1.1 0 else (zgR 1 19 c1.1 x0).bind fun v4 => (zaI c1.1 v4 c1.2).bind fun v5 => (if v5 = 0 then zrZ c1.1 1 else (zgR 1 14 c1.1 x0).bind fun v6 => (zck 3 c1.1 v6 (fX3_sizeOf c1.1 v6 c1.2)).bind fun c7 => (if c7.2 = 0 then zrZ c7.1 0 else (if 4 ≤ x1 then jX1_canBeTaken_78 c7.1 else (zgR 1 14 c7.1 x0).bind fun v8 => (zgR 1 14 c7.1 x0).bind fun v9 => (zck 3 c7.1 v9 (fX3_firstOf c7.1 v9 c1.2)).bind fun c10 => (zck 1 c10.1 x0 (fX1_channelForResult c10.1 x0 x1 c10.2)).bind fun c11 => (zck 3 c11.1 v8 (fX3_sizeOf c11.1 v8 c11.2)).bind fun c12 => (zgI 1 1 c12.1 x0).bind fun v13 => (if v13 ≤ c12.2 then zrZ c12.1 0 else jX1_canBeTaken_78 c12.1)))))
set_option maxRecDepth 100000 in
set_option maxHeartbeats 4000000 in
theorem wfX1_canBeTaken (C : zC p s m args meth c cX1_canBeTaken RX1 4 D Ca B En) (hRm : zRm R 2 43 cells slots) (σ : zS) (x0 : Nat) (x1 : Int32) (x2 : Int32) (τ : zS) (r : Int32) (hf : fX1_canBeTaken σ x0 x1 x2 = some (τ, r)) (hq : ∀ (pc : Nat) (lv : List (Nat × Value)), (r = 0 ∨ r = 1) → decode cX1_canBeTaken pc = .ok (.ireturn, 1) → zW p l e R s m args below meth c cells slots Q D Ca B 4 τ N pc lv [.int r]) : zW p l e R s m args below meth c cells slots Q D Ca B 4 σ N 0 [(0, .ref x0), (1, .int x1), (2, .int x2)] [] := by
  unfold fX1_canBeTaken at hf
  refine z_iload_n C dX1_canBeTaken_0 rfl 1 rfl ?_
  refine z_iload_n C dX1_canBeTaken_1 rfl 2 rfl ?_
  obtain ⟨c1, hc1, hf⟩ := zbind hf
  refine z_callSNi (host := "BarrierFlow") (As := [.int x1, .int x2]) (F0 := 2) (L0 := 43) C (mX9_channel l D Ca B En C.2.2.2.2.2.2.2.1 σ N x1 x2 _ hc1) hRm kw_686 kw_1 (by decide) kw_685 hyX9_channel (Nat.le_of_ble_eq_true rfl) (Nat.le_of_ble_eq_true rfl) rfl rfl (Nat.le_of_ble_eq_true rfl) dX1_canBeTaken_2 ?_
  refine z_istore_n (lv2 := [(3, .int c1.2), (0, .ref x0), (1, .int x1), (2, .int x2)]) C dX1_canBeTaken_5 rfl (by decide) rfl ?_
  refine z_aload_n C dX1_canBeTaken_6 rfl 1 rfl ?_
  obtain ⟨v2, hv2, hf⟩ := zbind hf
  refine gf_RX1_24 C hv2 dX1_canBeTaken_7 ?_
  refine z_iload_n C dX1_canBeTaken_10 rfl 2 rfl ?_
  obtain ⟨v3, hv3, hf⟩ := zbind hf
  refine z_aI C hv3 dX1_canBeTaken_11 ?_
  refine z_iload_n C dX1_canBeTaken_12 rfl 3 rfl ?_
  refine z_ishr C dX1_canBeTaken_13 ?_
  refine z_iconst C 1 dX1_canBeTaken_14 (by decide) ?_
  refine z_iand C dX1_canBeTaken_15 ?_
  refine z_iconst C 1 dX1_canBeTaken_16 (by decide) ?_
  refine z_icmp_ne C 22 dX1_canBeTaken_17 (by decide) (fun q18 => ?_) (fun q18 => ?_)
  · rw [if_neg q18] at hf
    refine z_aload_n C dX1_canBeTaken_22 rfl 1 rfl ?_
    obtain ⟨v4, hv4, hf⟩ := zbind hf
    refine gf_RX1_47 C hv4 dX1_canBeTaken_23 ?_
    refine z_iload_n C dX1_canBeTaken_26 rfl 0 rfl ?_
    obtain ⟨v5, hv5, hf⟩ := zbind hf
    refine z_aI C hv5 dX1_canBeTaken_27 ?_
    refine z_if_ne C 33 dX1_canBeTaken_28 (by decide) (fun q17 => ?_) (fun q17 => ?_)
    · rw [if_neg q17] at hf
      refine z_aload_n C dX1_canBeTaken_33 rfl 1 rfl ?_
      obtain ⟨v6, hv6, hf⟩ := zbind hf
      refine gf_RX1_30 C hv6 dX1_canBeTaken_34 ?_
      refine z_iload_n C dX1_canBeTaken_37 rfl 0 rfl ?_
      obtain ⟨c7, hc7, hf⟩ := zbind hf
      obtain ⟨kc7, hc7⟩ := zck_ok hc7
      refine z_callVi (As := [.int c1.2]) (F0 := 2) (L0 := 43) C (mX3_sizeOf l D Ca B En C.2.2.2.2.2.2.2.1 c1.1 N v6 c1.2 _ hc7) hRm kc7 rfl kw_342 kw_9 kw_339 kw_340 kw_341 hyX3_sizeOf (Nat.le_of_ble_eq_true rfl) (Nat.le_of_ble_eq_true rfl) rfl rfl (Nat.le_of_ble_eq_true rfl) dX1_canBeTaken_38 ?_
      refine z_if_ne C 46 dX1_canBeTaken_41 (by decide) (fun q16 => ?_) (fun q16 => ?_)
      · rw [if_neg q16] at hf
        refine z_iload_n C dX1_canBeTaken_46 rfl 2 rfl ?_
        refine z_iconst C 4 dX1_canBeTaken_47 (by decide) ?_
        refine z_icmp_ge C 78 dX1_canBeTaken_48 (by decide) (fun q15 => ?_) (fun q15 => ?_)
        · rw [if_pos q15] at hf
          refine z_sub [] rfl ?_
          exact wjX1_canBeTaken_78 C hRm _   _ _ hf hq
        · rw [if_neg q15] at hf
          refine z_aload_n C dX1_canBeTaken_51 rfl 1 rfl ?_
          obtain ⟨v8, hv8, hf⟩ := zbind hf
          refine gf_RX1_30 C hv8 dX1_canBeTaken_52 ?_
          refine z_aload_n C dX1_canBeTaken_55 rfl 1 rfl ?_
          refine z_iload_n C dX1_canBeTaken_56 rfl 2 rfl ?_
          refine z_aload_n C dX1_canBeTaken_57 rfl 1 rfl ?_
          obtain ⟨v9, hv9, hf⟩ := zbind hf
          refine gf_RX1_30 C hv9 dX1_canBeTaken_58 ?_
          refine z_iload_n C dX1_canBeTaken_61 rfl 0 rfl ?_
          obtain ⟨c10, hc10, hf⟩ := zbind hf
          obtain ⟨kc10, hc10⟩ := zck_ok hc10
          refine z_callVi (As := [.int c1.2]) (F0 := 2) (L0 := 43) C (mX3_firstOf l D Ca B En C.2.2.2.2.2.2.2.1 c7.1 N v9 c1.2 _ hc10) hRm kc10 rfl kw_338 kw_9 kw_335 kw_336 kw_337 hyX3_firstOf (Nat.le_of_ble_eq_true rfl) (Nat.le_of_ble_eq_true rfl) rfl rfl (Nat.le_of_ble_eq_true rfl) dX1_canBeTaken_62 ?_
          obtain ⟨c11, hc11, hf⟩ := zbind hf
          obtain ⟨kc11, hc11⟩ := zck_ok hc11
          refine z_callVi (As := [.int x1, .int c10.2]) (F0 := 2) (L0 := 43) C (mX1_channelForResult l D Ca B En C.2.2.2.2.2.2.2.1 c10.1 N x0 x1 c10.2 _ hc11) hRm kc11 rfl kw_801 kw_8 kw_798 kw_800 kp_27 hyX1_channelForResult (Nat.le_of_ble_eq_true rfl) (Nat.le_of_ble_eq_true rfl) rfl rfl (Nat.le_of_ble_eq_true rfl) dX1_canBeTaken_65 ?_
          obtain ⟨c12, hc12, hf⟩ := zbind hf
          obtain ⟨kc12, hc12⟩ := zck_ok hc12
          refine z_callVi (As := [.int c11.2]) (F0 := 2) (L0 := 43) C (mX3_sizeOf l D Ca B En C.2.2.2.2.2.2.2.1 c11.1 N v8 c11.2 _ hc12) hRm kc12 rfl kw_342 kw_9 kw_339 kw_340 kw_341 hyX3_sizeOf (Nat.le_of_ble_eq_true rfl) (Nat.le_of_ble_eq_true rfl) rfl rfl (Nat.le_of_ble_eq_true rfl) dX1_canBeTaken_68 ?_
          refine z_aload_n C dX1_canBeTaken_71 rfl 1 rfl ?_
          obtain ⟨v13, hv13, hf⟩ := zbind hf
          refine gf_RX1_77 C hv13 dX1_canBeTaken_72 ?_
          refine z_icmp_ge C 82 dX1_canBeTaken_75 (by decide) (fun q14 => ?_) (fun q14 => ?_)
          · rw [if_pos q14] at hf
            refine z_iconst C 0 dX1_canBeTaken_82 (by decide) ?_
            obtain ⟨e9, b9⟩ := zrZ_ok hf
            cases e9
            exact hq _ _ b9 dX1_canBeTaken_83
          · rw [if_neg q14] at hf
            refine z_sub [] rfl ?_
            exact wjX1_canBeTaken_78 C hRm _   _ _ hf hq
      · rw [if_pos q16] at hf
        refine z_iconst C 0 dX1_canBeTaken_44 (by decide) ?_
        obtain ⟨e9, b9⟩ := zrZ_ok hf
        cases e9
        exact hq _ _ b9 dX1_canBeTaken_45
    · rw [if_pos q17] at hf
      refine z_iconst C 1 dX1_canBeTaken_31 (by decide) ?_
      obtain ⟨e9, b9⟩ := zrZ_ok hf
      cases e9
      exact hq _ _ b9 dX1_canBeTaken_32
  · rw [if_pos q18] at hf
    refine z_iconst C 0 dX1_canBeTaken_20 (by decide) ?_
    obtain ⟨e9, b9⟩ := zrZ_ok hf
    cases e9
    exact hq _ _ b9 dX1_canBeTaken_21

theorem mX1_canBeTaken (l : Launch) (D : va_G) (Ca : Nat → ClassId) (B : Nat) (En : State → Prop) (hE : zEk B En) (σ : zS) (N : Nat) (x0 : Nat) (x1 : Int32) (x2 : Int32) (X : zS × Int32) (hf : fX1_canBeTaken σ x0 x1 x2 = some X) : zMi l D Ca B En yX1_canBeTaken cX1_canBeTaken 4 (Option.some Jvm.ClassFile.FieldType.boolean) 2 43 [.ref x0, .int x1, .int x2] σ N X.1 X.2 :=
  zMet_i (own := RX1) hE (by decide +kernel) rfl (Nat.le_of_ble_eq_true rfl) (fun p e s m args below meth c C hr hRm => wfX1_canBeTaken C hRm σ x0 x1 x2 X.1 X.2 hf (fun pc lv hb hd => zfin_z C hb hr hd))
theorem dX1_senderInTurn_0 : decode cX1_senderInTurn 0 = .ok (.aload_n 0, 1) := by decide +kernel
theorem dX1_senderInTurn_1 : decode cX1_senderInTurn 1 = .ok (.iload_n 1, 1) := by decide +kernel
theorem dX1_senderInTurn_2 : decode cX1_senderInTurn 2 = .ok (.invokevirtual 215, 3) := by decide +kernel
theorem dX1_senderInTurn_5 : decode cX1_senderInTurn 5 = .ok (.istore_n 2, 1) := by decide +kernel
theorem dX1_senderInTurn_6 : decode cX1_senderInTurn 6 = .ok (.aload_n 0, 1) := by decide +kernel
theorem dX1_senderInTurn_7 : decode cX1_senderInTurn 7 = .ok (.getfield 44, 3) := by decide +kernel
theorem dX1_senderInTurn_10 : decode cX1_senderInTurn 10 = .ok (.iload_n 1, 1) := by decide +kernel
theorem dX1_senderInTurn_11 : decode cX1_senderInTurn 11 = .ok (.iaload, 1) := by decide +kernel
theorem dX1_senderInTurn_12 : decode cX1_senderInTurn 12 = .ok (.istore_n 3, 1) := by decide +kernel
theorem dX1_senderInTurn_13 : decode cX1_senderInTurn 13 = .ok (.iconst 0, 1) := by decide +kernel
theorem dX1_senderInTurn_14 : decode cX1_senderInTurn 14 = .ok (.istore 4, 2) := by decide +kernel
theorem dX1_senderInTurn_16 : decode cX1_senderInTurn 16 = .ok (.iload 4, 2) := by decide +kernel
theorem dX1_senderInTurn_18 : decode cX1_senderInTurn 18 = .ok (.iload_n 2, 1) := by decide +kernel
theorem dX1_senderInTurn_19 : decode cX1_senderInTurn 19 = .ok (.if_icmp .ge 30, 3) := by decide +kernel
theorem dX1_senderInTurn_22 : decode cX1_senderInTurn 22 = .ok (.iload_n 3, 1) := by decide +kernel
theorem dX1_senderInTurn_23 : decode cX1_senderInTurn 23 = .ok (.iload_n 2, 1) := by decide +kernel
theorem dX1_senderInTurn_24 : decode cX1_senderInTurn 24 = .ok (.if_icmp .lt 5, 3) := by decide +kernel
theorem dX1_senderInTurn_27 : decode cX1_senderInTurn 27 = .ok (.iconst 0, 1) := by decide +kernel
theorem dX1_senderInTurn_28 : decode cX1_senderInTurn 28 = .ok (.istore_n 3, 1) := by decide +kernel
theorem dX1_senderInTurn_29 : decode cX1_senderInTurn 29 = .ok (.aload_n 0, 1) := by decide +kernel
theorem dX1_senderInTurn_30 : decode cX1_senderInTurn 30 = .ok (.iload_n 1, 1) := by decide +kernel
theorem dX1_senderInTurn_31 : decode cX1_senderInTurn 31 = .ok (.iload_n 3, 1) := by decide +kernel
theorem dX1_senderInTurn_32 : decode cX1_senderInTurn 32 = .ok (.invokevirtual 221, 3) := by decide +kernel
theorem dX1_senderInTurn_35 : decode cX1_senderInTurn 35 = .ok (.ifCond .eq 5, 3) := by decide +kernel
theorem dX1_senderInTurn_38 : decode cX1_senderInTurn 38 = .ok (.iload_n 3, 1) := by decide +kernel
theorem dX1_senderInTurn_39 : decode cX1_senderInTurn 39 = .ok (.ireturn, 1) := by decide +kernel
theorem dX1_senderInTurn_40 : decode cX1_senderInTurn 40 = .ok (.iinc 3 1, 3) := by decide +kernel
theorem dX1_senderInTurn_43 : decode cX1_senderInTurn 43 = .ok (.iinc 4 1, 3) := by decide +kernel
theorem dX1_senderInTurn_46 : decode cX1_senderInTurn 46 = .ok (.goto (-30), 3) := by decide +kernel
theorem dX1_senderInTurn_49 : decode cX1_senderInTurn 49 = .ok (.iconst (-1), 1) := by decide +kernel
theorem dX1_senderInTurn_50 : decode cX1_senderInTurn 50 = .ok (.ireturn, 1) := by decide +kernel
theorem hyX1_senderInTurn : yX1_senderInTurn.cls ≠ "java/lang/invoke/MethodHandle" ∧ yX1_senderInTurn.cls ≠ "java/lang/invoke/VarHandle" ∧ (parseMethodDescriptor yX1_senderInTurn.desc).map (fun d => d.parameters.length) = some 1 := ⟨by decide +kernel, by decide +kernel, by decide +kernel⟩
def jX1_senderInTurn_29_L16 (σ : zS) (x0 : Nat) (x1 : Int32) (x2 : Int32) (x3 : Int32) (x4 : Int32)  : Option ((zS × Int32 × Int32) ⊕ ((zS × Int32) ⊕ zS)) :=
  (zck 1 σ x0 (fX1_canBeTaken σ x0 x1 x3)).bind fun c4 => (if c4.2 = 0 then some (.inl (c4.1, x3 + 1, x4 + 1)) else some (.inr (.inl (c4.1, x3))))
set_option maxRecDepth 100000 in
set_option maxHeartbeats 4000000 in
theorem wjX1_senderInTurn_29_L16 (C : zC p s m args meth c cX1_senderInTurn RX1 5 D Ca B En) (hRm : zRm R 3 66 cells slots) (σ : zS) (x0 : Nat) (x1 : Int32) (x2 : Int32) (x3 : Int32) (x4 : Int32)  (y : (zS × Int32 × Int32) ⊕ ((zS × Int32) ⊕ zS)) (hf : jX1_senderInTurn_29_L16 σ x0 x1 x2 x3 x4  = some y) (hk : (∀ z : (zS × Int32 × Int32), y = .inl z → zW p l e R s m args below meth c cells slots Q D Ca B 5 z.1 N 16 [(0, .ref x0), (1, .int x1), (2, .int x2), (3, .int z.2.1), (4, .int z.2.2)] []) ∧ (∀ z : (zS × Int32), y = .inr (.inl z) → zW p l e R s m args below meth c cells slots Q D Ca B 5 z.1 N 38 [(3, .int z.2)] []) ∧ (∀ z : zS, y = .inr (.inr z) → zW p l e R s m args below meth c cells slots Q D Ca B 5 z N 49 [] [])) : zW p l e R s m args below meth c cells slots Q D Ca B 5 σ N 29 [(0, .ref x0), (1, .int x1), (2, .int x2), (3, .int x3), (4, .int x4)] [] := by
  unfold jX1_senderInTurn_29_L16 at hf
  refine z_aload_n C dX1_senderInTurn_29 rfl 0 rfl ?_
  refine z_iload_n C dX1_senderInTurn_30 rfl 1 rfl ?_
  refine z_iload_n C dX1_senderInTurn_31 rfl 3 rfl ?_
  obtain ⟨c4, hc4, hf⟩ := zbind hf
  obtain ⟨kc4, hc4⟩ := zck_ok hc4
  refine z_callVi (As := [.int x1, .int x3]) (F0 := 3) (L0 := 66) C (mX1_canBeTaken l D Ca B En C.2.2.2.2.2.2.2.1 σ N x0 x1 x3 _ hc4) hRm kc4 rfl kw_797 kw_8 kw_794 kw_796 kp_26 hyX1_canBeTaken (Nat.le_of_ble_eq_true rfl) (Nat.le_of_ble_eq_true rfl) rfl rfl (Nat.le_of_ble_eq_true rfl) dX1_senderInTurn_32 ?_
  refine z_if_eq C 40 dX1_senderInTurn_35 (by decide) (fun q5 => ?_) (fun q5 => ?_)
  · rw [if_pos q5] at hf
    refine z_iinc (lv2 := [(3, .int (x3 + 1)), (0, .ref x0), (1, .int x1), (2, .int x2), (4, .int x4)]) C (x3 + 1) dX1_senderInTurn_40 3 rfl rfl (by decide) rfl ?_
    refine z_iinc (lv2 := [(4, .int (x4 + 1)), (3, .int (x3 + 1)), (0, .ref x0), (1, .int x1), (2, .int x2)]) C (x4 + 1) dX1_senderInTurn_43 4 rfl rfl (by decide) rfl ?_
    refine z_goto C 16 dX1_senderInTurn_46 (by decide) ?_
    cases hf
    refine z_sub [2, 3, 4, 1, 0] rfl ?_
    exact hk.1 _ rfl
  · rw [if_neg q5] at hf
    cases hf
    refine z_sub [3] rfl ?_
    exact hk.2.1 _ rfl

def sX1_senderInTurn_16b (x0 : Nat) (x1 : Int32) (x2 : Int32) (σ : zS) (u3 : Int32) (u4 : Int32) : Option ((zS × Int32 × Int32) ⊕ ((zS × Int32) ⊕ zS)) :=
  (if x2 ≤ u4 then some (.inr (.inr σ)) else (if u3 < x2 then jX1_senderInTurn_29_L16 σ x0 x1 x2 u3 u4 else jX1_senderInTurn_29_L16 σ x0 x1 x2 0 u4))
def sX1_senderInTurn_16 (x0 : Nat) (x1 : Int32) (x2 : Int32) (z : (zS × Int32 × Int32)) : Option ((zS × Int32 × Int32) ⊕ ((zS × Int32) ⊕ zS)) := sX1_senderInTurn_16b x0 x1 x2 z.1 z.2.1 z.2.2
set_option maxRecDepth 100000 in
set_option maxHeartbeats 4000000 in
theorem wsX1_senderInTurn_16b (C : zC p s m args meth c cX1_senderInTurn RX1 5 D Ca B En) (hRm : zRm R 3 66 cells slots) (x0 : Nat) (x1 : Int32) (x2 : Int32) (σ : zS) (u3 : Int32) (u4 : Int32) (y : (zS × Int32 × Int32) ⊕ ((zS × Int32) ⊕ zS)) (hf : sX1_senderInTurn_16b x0 x1 x2 σ u3 u4 = some y) (hk : (∀ z : (zS × Int32 × Int32), y = .inl z → zW p l e R s m args below meth c cells slots Q D Ca B 5 z.1 N 16 [(0, .ref x0), (1, .int x1), (2, .int x2), (3, .int z.2.1), (4, .int z.2.2)] []) ∧ (∀ z : (zS × Int32), y = .inr (.inl z) → zW p l e R s m args below meth c cells slots Q D Ca B 5 z.1 N 38 [(3, .int z.2)] []) ∧ (∀ z : zS, y = .inr (.inr z) → zW p l e R s m args below meth c cells slots Q D Ca B 5 z N 49 [] [])) : zW p l e R s m args below meth c cells slots Q D Ca B 5 σ N 16 [(0, .ref x0), (1, .int x1), (2, .int x2), (3, .int u3), (4, .int u4)] [] := by
  unfold sX1_senderInTurn_16b at hf
  refine z_iload C dX1_senderInTurn_16 4 rfl ?_
  refine z_iload_n C dX1_senderInTurn_18 rfl 2 rfl ?_
  refine z_icmp_ge C 49 dX1_senderInTurn_19 (by decide) (fun q7 => ?_) (fun q7 => ?_)
  · rw [if_pos q7] at hf
    cases hf
    refine z_sub [] rfl ?_
    exact hk.2.2 _ rfl
  · rw [if_neg q7] at hf
    refine z_iload_n C dX1_senderInTurn_22 rfl 3 rfl ?_
    refine z_iload_n C dX1_senderInTurn_23 rfl 2 rfl ?_
    refine z_icmp_lt C 29 dX1_senderInTurn_24 (by decide) (fun q6 => ?_) (fun q6 => ?_)
    · rw [if_pos q6] at hf
      refine z_sub [0, 1, 2, 3, 4] rfl ?_
      exact wjX1_senderInTurn_29_L16 C hRm _ _ _ _ _ _  _ hf hk
    · rw [if_neg q6] at hf
      refine z_iconst C 0 dX1_senderInTurn_27 (by decide) ?_
      refine z_istore_n (lv2 := [(3, .int 0), (0, .ref x0), (1, .int x1), (2, .int x2), (4, .int u4)]) C dX1_senderInTurn_28 rfl (by decide) rfl ?_
      refine z_sub [1, 2, 3, 0, 4] rfl ?_
      exact wjX1_senderInTurn_29_L16 C hRm _ _ _ _ _ _  _ hf hk

theorem wsX1_senderInTurn_16 (C : zC p s m args meth c cX1_senderInTurn RX1 5 D Ca B En) (hRm : zRm R 3 66 cells slots) (x0 : Nat) (x1 : Int32) (x2 : Int32) (n : Nat) (z : (zS × Int32 × Int32)) (x : ((zS × Int32) ⊕ zS)) (hf : zloop (sX1_senderInTurn_16 x0 x1 x2) n z = some x) (hk : (∀ o : (zS × Int32), x = (.inl o) → zW p l e R s m args below meth c cells slots Q D Ca B 5 o.1 N 38 [(3, .int o.2)] []) ∧ (∀ o : zS, x = (.inr o) → zW p l e R s m args below meth c cells slots Q D Ca B 5 o N 49 [] [])) : zW p l e R s m args below meth c cells slots Q D Ca B 5 z.1 N 16 [(0, .ref x0), (1, .int x1), (2, .int x2), (3, .int z.2.1), (4, .int z.2.2)] [] := by
  refine zloop_W (P := fun z : (zS × Int32 × Int32) => zW p l e R s m args below meth c cells slots Q D Ca B 5 z.1 N 16 [(0, .ref x0), (1, .int x1), (2, .int x2), (3, .int z.2.1), (4, .int z.2.2)] []) (K := fun x : ((zS × Int32) ⊕ zS) => (∀ o : (zS × Int32), x = (.inl o) → zW p l e R s m args below meth c cells slots Q D Ca B 5 o.1 N 38 [(3, .int o.2)] []) ∧ (∀ o : zS, x = (.inr o) → zW p l e R s m args below meth c cells slots Q D Ca B 5 o N 49 [] [])) ?_ n z x hf hk
  intro z y hy h1 h2
  refine wsX1_senderInTurn_16b C hRm x0 x1 x2 z.1 z.2.1 z.2.2 y hy ⟨fun z2 e => h1 z2 e, fun o e => (h2 _ e).1 o rfl, fun o e => (h2 _ e).2 o rfl⟩
def fX1_senderInTurn (σ : zS) (x0 : Nat) (x1 : Int32) : Option (zS × Int32) :=
  (zck 1 σ x0 (fX1_sendersTo σ x0 x1)).bind fun c1 => (zgR 1 18 c1.1 x0).bind fun v2 => (zaI c1.1 v2 x1).bind fun v3 => (zloop (sX1_senderInTurn_16 x0 x1 c1.2) zfuel (c1.1, v3, 0)).bind fun o8 => (match o8 with | (.inl z9) => some (z9.1, z9.2) | (.inr z10) => some (z10, (-1)))
set_option maxRecDepth 100000 in
set_option maxHeartbeats 4000000 in
theorem wfX1_senderInTurn (C : zC p s m args meth c cX1_senderInTurn RX1 5 D Ca B En) (hRm : zRm R 3 66 cells slots) (σ : zS) (x0 : Nat) (x1 : Int32) (τ : zS) (r : Int32) (hf : fX1_senderInTurn σ x0 x1 = some (τ, r)) (hq : ∀ (pc : Nat) (lv : List (Nat × Value)), decode cX1_senderInTurn pc = .ok (.ireturn, 1) → zW p l e R s m args below meth c cells slots Q D Ca B 5 τ N pc lv [.int r]) : zW p l e R s m args below meth c cells slots Q D Ca B 5 σ N 0 [(0, .ref x0), (1, .int x1)] [] := by
  unfold fX1_senderInTurn at hf
  refine z_aload_n C dX1_senderInTurn_0 rfl 0 rfl ?_
  refine z_iload_n C dX1_senderInTurn_1 rfl 1 rfl ?_
  obtain ⟨c1, hc1, hf⟩ := zbind hf
  obtain ⟨kc1, hc1⟩ := zck_ok hc1
  refine z_callVi (As := [.int x1]) (F0 := 3) (L0 := 66) C (mX1_sendersTo l D Ca B En C.2.2.2.2.2.2.2.1 σ N x0 x1 _ hc1) hRm kc1 rfl kw_771 kw_8 kw_768 kw_770 kp_21 hyX1_sendersTo (Nat.le_of_ble_eq_true rfl) (Nat.le_of_ble_eq_true rfl) rfl rfl (Nat.le_of_ble_eq_true rfl) dX1_senderInTurn_2 ?_
  refine z_istore_n (lv2 := [(2, .int c1.2), (0, .ref x0), (1, .int x1)]) C dX1_senderInTurn_5 rfl (by decide) rfl ?_
  refine z_aload_n C dX1_senderInTurn_6 rfl 1 rfl ?_
  obtain ⟨v2, hv2, hf⟩ := zbind hf
  refine gf_RX1_44 C hv2 dX1_senderInTurn_7 ?_
  refine z_iload_n C dX1_senderInTurn_10 rfl 2 rfl ?_
  obtain ⟨v3, hv3, hf⟩ := zbind hf
  refine z_aI C hv3 dX1_senderInTurn_11 ?_
  refine z_istore_n (lv2 := [(3, .int v3), (2, .int c1.2), (0, .ref x0), (1, .int x1)]) C dX1_senderInTurn_12 rfl (by decide) rfl ?_
  refine z_iconst C 0 dX1_senderInTurn_13 (by decide) ?_
  refine z_istore (lv2 := [(4, .int 0), (3, .int v3), (2, .int c1.2), (0, .ref x0), (1, .int x1)]) C dX1_senderInTurn_14 (by decide) rfl ?_
  obtain ⟨o8, ho8, hf⟩ := zbind hf
  refine z_sub [3, 4, 2, 1, 0] rfl ?_
  refine wsX1_senderInTurn_16 C hRm _ _ _ zfuel (c1.1, v3, 0) o8 ho8 ⟨?_, ?_⟩
  · intro z9 e9
    subst e9
    dsimp only at hf
    refine z_iload_n C dX1_senderInTurn_38 rfl 0 rfl ?_
    cases hf
    exact hq _ _ dX1_senderInTurn_39
  · intro z10 e9
    subst e9
    dsimp only at hf
    refine z_iconst C (-1) dX1_senderInTurn_49 (by decide) ?_
    cases hf
    exact hq _ _ dX1_senderInTurn_50

theorem mX1_senderInTurn (l : Launch) (D : va_G) (Ca : Nat → ClassId) (B : Nat) (En : State → Prop) (hE : zEk B En) (σ : zS) (N : Nat) (x0 : Nat) (x1 : Int32) (X : zS × Int32) (hf : fX1_senderInTurn σ x0 x1 = some X) : zMi l D Ca B En yX1_senderInTurn cX1_senderInTurn 5 (Option.some Jvm.ClassFile.FieldType.int) 3 66 [.ref x0, .int x1] σ N X.1 X.2 :=
  zMet_i (own := RX1) hE (by decide +kernel) rfl (Nat.le_of_ble_eq_true rfl) (fun p e s m args below meth c C hr hRm => wfX1_senderInTurn C hRm σ x0 x1 X.1 X.2 hf (fun pc lv hd => zfin_i C hr hd))
theorem dX7_valueOf_0 : decode cX7_valueOf 0 = .ok (.iload_n 1, 1) := by decide +kernel
theorem dX7_valueOf_1 : decode cX7_valueOf 1 = .ok (.ifCond .lt 19, 3) := by decide +kernel
theorem dX7_valueOf_4 : decode cX7_valueOf 4 = .ok (.iload_n 1, 1) := by decide +kernel
theorem dX7_valueOf_5 : decode cX7_valueOf 5 = .ok (.sipush 800, 3) := by decide +kernel
theorem dX7_valueOf_8 : decode cX7_valueOf 8 = .ok (.if_icmp .ge 12, 3) := by decide +kernel
theorem dX7_valueOf_11 : decode cX7_valueOf 11 = .ok (.aload_n 0, 1) := by decide +kernel
theorem dX7_valueOf_12 : decode cX7_valueOf 12 = .ok (.getfield 34, 3) := by decide +kernel
theorem dX7_valueOf_15 : decode cX7_valueOf 15 = .ok (.iload_n 1, 1) := by decide +kernel
theorem dX7_valueOf_16 : decode cX7_valueOf 16 = .ok (.iaload, 1) := by decide +kernel
theorem dX7_valueOf_17 : decode cX7_valueOf 17 = .ok (.goto 4, 3) := by decide +kernel
theorem dX7_valueOf_20 : decode cX7_valueOf 20 = .ok (.iconst 0, 1) := by decide +kernel
theorem dX7_valueOf_21 : decode cX7_valueOf 21 = .ok (.ireturn, 1) := by decide +kernel
theorem hyX7_valueOf : yX7_valueOf.cls ≠ "java/lang/invoke/MethodHandle" ∧ yX7_valueOf.cls ≠ "java/lang/invoke/VarHandle" ∧ (parseMethodDescriptor yX7_valueOf.desc).map (fun d => d.parameters.length) = some 1 := ⟨by decide +kernel, by decide +kernel, by decide +kernel⟩
def fX7_valueOf (σ : zS) (x0 : Nat) (x1 : Int32) : Option (zS × Int32) :=
  (if x1 < 0 then some (σ, 0) else (if 800 ≤ x1 then some (σ, 0) else (zgR 7 9 σ x0).bind fun v1 => (zaI σ v1 x1).bind fun v2 => some (σ, v2)))
set_option maxRecDepth 100000 in
set_option maxHeartbeats 4000000 in
theorem wfX7_valueOf (C : zC p s m args meth c cX7_valueOf RX7 2 D Ca B En) (hRm : zRm R 0 0 cells slots) (σ : zS) (x0 : Nat) (x1 : Int32) (τ : zS) (r : Int32) (hf : fX7_valueOf σ x0 x1 = some (τ, r)) (hq : ∀ (pc : Nat) (lv : List (Nat × Value)), decode cX7_valueOf pc = .ok (.ireturn, 1) → zW p l e R s m args below meth c cells slots Q D Ca B 2 τ N pc lv [.int r]) : zW p l e R s m args below meth c cells slots Q D Ca B 2 σ N 0 [(0, .ref x0), (1, .int x1)] [] := by
  unfold fX7_valueOf at hf
  refine z_iload_n C dX7_valueOf_0 rfl 1 rfl ?_
  refine z_if_lt C 20 dX7_valueOf_1 (by decide) (fun q4 => ?_) (fun q4 => ?_)
  · rw [if_pos q4] at hf
    refine z_iconst C 0 dX7_valueOf_20 (by decide) ?_
    cases hf
    exact hq _ _ dX7_valueOf_21
  · rw [if_neg q4] at hf
    refine z_iload_n C dX7_valueOf_4 rfl 1 rfl ?_
    refine z_sipush C 800 dX7_valueOf_5 (by decide) ?_
    refine z_icmp_ge C 20 dX7_valueOf_8 (by decide) (fun q3 => ?_) (fun q3 => ?_)
    · rw [if_pos q3] at hf
      refine z_iconst C 0 dX7_valueOf_20 (by decide) ?_
      cases hf
      exact hq _ _ dX7_valueOf_21
    · rw [if_neg q3] at hf
      refine z_aload_n C dX7_valueOf_11 rfl 0 rfl ?_
      obtain ⟨v1, hv1, hf⟩ := zbind hf
      refine gf_RX7_34 C hv1 dX7_valueOf_12 ?_
      refine z_iload_n C dX7_valueOf_15 rfl 1 rfl ?_
      obtain ⟨v2, hv2, hf⟩ := zbind hf
      refine z_aI C hv2 dX7_valueOf_16 ?_
      refine z_goto C 21 dX7_valueOf_17 (by decide) ?_
      cases hf
      exact hq _ _ dX7_valueOf_21

theorem mX7_valueOf (l : Launch) (D : va_G) (Ca : Nat → ClassId) (B : Nat) (En : State → Prop) (hE : zEk B En) (σ : zS) (N : Nat) (x0 : Nat) (x1 : Int32) (X : zS × Int32) (hf : fX7_valueOf σ x0 x1 = some X) : zMi l D Ca B En yX7_valueOf cX7_valueOf 2 (Option.some Jvm.ClassFile.FieldType.int) 0 0 [.ref x0, .int x1] σ N X.1 X.2 :=
  zMet_i (own := RX7) hE (by decide +kernel) rfl (Nat.le_of_ble_eq_true rfl) (fun p e s m args below meth c C hr hRm => wfX7_valueOf C hRm σ x0 x1 X.1 X.2 hf (fun pc lv hd => zfin_i C hr hd))
theorem dX1_addUp_0 : decode cX1_addUp 0 = .ok (.aload_n 0, 1) := by decide +kernel
theorem dX1_addUp_1 : decode cX1_addUp 1 = .ok (.getfield 54, 3) := by decide +kernel
theorem dX1_addUp_4 : decode cX1_addUp 4 = .ok (.iload_n 2, 1) := by decide +kernel
theorem dX1_addUp_5 : decode cX1_addUp 5 = .ok (.invokevirtual 203, 3) := by decide +kernel
theorem dX1_addUp_8 : decode cX1_addUp 8 = .ok (.istore_n 3, 1) := by decide +kernel
theorem dX1_addUp_9 : decode cX1_addUp 9 = .ok (.iload_n 3, 1) := by decide +kernel
theorem dX1_addUp_10 : decode cX1_addUp 10 = .ok (.ifCond .lt 9, 3) := by decide +kernel
theorem dX1_addUp_13 : decode cX1_addUp 13 = .ok (.iload_n 3, 1) := by decide +kernel
theorem dX1_addUp_14 : decode cX1_addUp 14 = .ok (.bipush 16, 2) := by decide +kernel
theorem dX1_addUp_16 : decode cX1_addUp 16 = .ok (.if_icmp .lt 4, 3) := by decide +kernel
theorem dX1_addUp_19 : decode cX1_addUp 19 = .ok (.return_, 1) := by decide +kernel
theorem dX1_addUp_20 : decode cX1_addUp 20 = .ok (.aload_n 0, 1) := by decide +kernel
theorem dX1_addUp_21 : decode cX1_addUp 21 = .ok (.getfield 18, 3) := by decide +kernel
theorem dX1_addUp_24 : decode cX1_addUp 24 = .ok (.iload_n 3, 1) := by decide +kernel
theorem dX1_addUp_25 : decode cX1_addUp 25 = .ok (.dup2, 1) := by decide +kernel
theorem dX1_addUp_26 : decode cX1_addUp 26 = .ok (.iaload, 1) := by decide +kernel
theorem dX1_addUp_27 : decode cX1_addUp 27 = .ok (.aload_n 0, 1) := by decide +kernel
theorem dX1_addUp_28 : decode cX1_addUp 28 = .ok (.getfield 54, 3) := by decide +kernel
theorem dX1_addUp_31 : decode cX1_addUp 31 = .ok (.iload_n 2, 1) := by decide +kernel
theorem dX1_addUp_32 : decode cX1_addUp 32 = .ok (.invokevirtual 246, 3) := by decide +kernel
theorem dX1_addUp_35 : decode cX1_addUp 35 = .ok (.iadd, 1) := by decide +kernel
theorem dX1_addUp_36 : decode cX1_addUp 36 = .ok (.iastore, 1) := by decide +kernel
theorem dX1_addUp_37 : decode cX1_addUp 37 = .ok (.aload_n 0, 1) := by decide +kernel
theorem dX1_addUp_38 : decode cX1_addUp 38 = .ok (.getfield 21, 3) := by decide +kernel
theorem dX1_addUp_41 : decode cX1_addUp 41 = .ok (.iload_n 1, 1) := by decide +kernel
theorem dX1_addUp_42 : decode cX1_addUp 42 = .ok (.dup2, 1) := by decide +kernel
theorem dX1_addUp_43 : decode cX1_addUp 43 = .ok (.iaload, 1) := by decide +kernel
theorem dX1_addUp_44 : decode cX1_addUp 44 = .ok (.iconst 1, 1) := by decide +kernel
theorem dX1_addUp_45 : decode cX1_addUp 45 = .ok (.iadd, 1) := by decide +kernel
theorem dX1_addUp_46 : decode cX1_addUp 46 = .ok (.iastore, 1) := by decide +kernel
theorem dX1_addUp_47 : decode cX1_addUp 47 = .ok (.aload_n 0, 1) := by decide +kernel
theorem dX1_addUp_48 : decode cX1_addUp 48 = .ok (.getfield 30, 3) := by decide +kernel
theorem dX1_addUp_51 : decode cX1_addUp 51 = .ok (.aload_n 0, 1) := by decide +kernel
theorem dX1_addUp_52 : decode cX1_addUp 52 = .ok (.iload_n 1, 1) := by decide +kernel
theorem dX1_addUp_53 : decode cX1_addUp 53 = .ok (.iload_n 2, 1) := by decide +kernel
theorem dX1_addUp_54 : decode cX1_addUp 54 = .ok (.invokevirtual 228, 3) := by decide +kernel
theorem dX1_addUp_57 : decode cX1_addUp 57 = .ok (.iload_n 2, 1) := by decide +kernel
theorem dX1_addUp_58 : decode cX1_addUp 58 = .ok (.invokevirtual 209, 3) := by decide +kernel
theorem dX1_addUp_61 : decode cX1_addUp 61 = .ok (.return_, 1) := by decide +kernel
theorem hyX1_addUp : yX1_addUp.cls ≠ "java/lang/invoke/MethodHandle" ∧ yX1_addUp.cls ≠ "java/lang/invoke/VarHandle" ∧ (parseMethodDescriptor yX1_addUp.desc).map (fun d => d.parameters.length) = some 2 := ⟨by decide +kernel, by decide +kernel, by decide +kernel⟩
def fX1_addUp (σ : zS) (x0 : Nat) (x1 : Int32) (x2 : Int32) : Option zS :=
  (zgR 1 17 σ x0).bind fun v1 => (zck 7 σ v1 (fX7_keyOf σ v1 x2)).bind fun c2 => (if c2.2 < 0 then some c2.1 else (if c2.2 < 16 then (zgR 1 11 c2.1 x0).bind fun v3 => (zaI c2.1 v3 c2.2).bind fun v4 => (zgR 1 17 c2.1 x0).bind fun v5 => (zck 7 c2.1 v5 (fX7_valueOf c2.1 v5 x2)).bind fun c6 => (zsI c6.1 v3 c2.2 (v4 + c6.2)).bind fun σ7 => (zgR 1 12 σ7 x0).bind fun v8 => (zaI σ7 v8 x1).bind fun v9 => (zsI σ7 v8 x1 (v9 + 1)).bind fun σ10 => (zgR 1 14 σ10 x0).bind fun v11 => (zck 1 σ10 x0 (fX1_channelForResult σ10 x0 x1 x2)).bind fun c12 => (zck 3 c12.1 v11 (fX3_add c12.1 v11 c12.2 x2)).bind fun c13 => some c13 else some c2.1))
set_option maxRecDepth 100000 in
set_option maxHeartbeats 4000000 in
theorem wfX1_addUp (C : zC p s m args meth c cX1_addUp RX1 4 D Ca B En) (hRm : zRm R 2 43 cells slots) (σ : zS) (x0 : Nat) (x1 : Int32) (x2 : Int32) (τ : zS) (hf : fX1_addUp σ x0 x1 x2 = some τ) (hq : ∀ (pc : Nat) (lv : List (Nat × Value)), decode cX1_addUp pc = .ok (.return_, 1) → zW p l e R s m args below meth c cells slots Q D Ca B 4 τ N pc lv []) : zW p l e R s m args below meth c cells slots Q D Ca B 4 σ N 0 [(0, .ref x0), (1, .int x1), (2, .int x2)] [] := by
  unfold fX1_addUp at hf
  refine z_aload_n C dX1_addUp_0 rfl 0 rfl ?_
  obtain ⟨v1, hv1, hf⟩ := zbind hf
  refine gf_RX1_54 C hv1 dX1_addUp_1 ?_
  refine z_iload_n C dX1_addUp_4 rfl 2 rfl ?_
  obtain ⟨c2, hc2, hf⟩ := zbind hf
  obtain ⟨kc2, hc2⟩ := zck_ok hc2
  refine z_callVi (As := [.int x2]) (F0 := 2) (L0 := 43) C (mX7_keyOf l D Ca B En C.2.2.2.2.2.2.2.1 σ N v1 x2 _ hc2) hRm kc2 rfl kw_755 kw_5 kw_752 kw_753 kw_754 hyX7_keyOf (Nat.le_of_ble_eq_true rfl) (Nat.le_of_ble_eq_true rfl) rfl rfl (Nat.le_of_ble_eq_true rfl) dX1_addUp_5 ?_
  refine z_istore_n (lv2 := [(3, .int c2.2), (0, .ref x0), (1, .int x1), (2, .int x2)]) C dX1_addUp_8 rfl (by decide) rfl ?_
  refine z_iload_n C dX1_addUp_9 rfl 0 rfl ?_
  refine z_if_lt C 19 dX1_addUp_10 (by decide) (fun q15 => ?_) (fun q15 => ?_)
  · rw [if_pos q15] at hf
    cases hf
    exact hq _ _ dX1_addUp_19
  · rw [if_neg q15] at hf
    refine z_iload_n C dX1_addUp_13 rfl 0 rfl ?_
    refine z_bipush C 16 dX1_addUp_14 (by decide) ?_
    refine z_icmp_lt C 20 dX1_addUp_16 (by decide) (fun q14 => ?_) (fun q14 => ?_)
    · rw [if_pos q14] at hf
      refine z_aload_n C dX1_addUp_20 rfl 1 rfl ?_
      obtain ⟨v3, hv3, hf⟩ := zbind hf
      refine gf_RX1_18 C hv3 dX1_addUp_21 ?_
      refine z_iload_n C dX1_addUp_24 rfl 0 rfl ?_
      refine z_dup2 C dX1_addUp_25 rfl rfl ?_
      obtain ⟨v4, hv4, hf⟩ := zbind hf
      refine z_aI C hv4 dX1_addUp_26 ?_
      refine z_aload_n C dX1_addUp_27 rfl 1 rfl ?_
      obtain ⟨v5, hv5, hf⟩ := zbind hf
      refine gf_RX1_54 C hv5 dX1_addUp_28 ?_
      refine z_iload_n C dX1_addUp_31 rfl 3 rfl ?_
      obtain ⟨c6, hc6, hf⟩ := zbind hf
      obtain ⟨kc6, hc6⟩ := zck_ok hc6
      refine z_callVi (As := [.int x2]) (F0 := 2) (L0 := 43) C (mX7_valueOf l D Ca B En C.2.2.2.2.2.2.2.1 c2.1 N v5 x2 _ hc6) hRm kc6 rfl kw_831 kw_5 kw_828 kw_829 kw_830 hyX7_valueOf (Nat.le_of_ble_eq_true rfl) (Nat.le_of_ble_eq_true rfl) rfl rfl (Nat.le_of_ble_eq_true rfl) dX1_addUp_32 ?_
      refine z_iadd C dX1_addUp_35 ?_
      obtain ⟨σ7, hσ7, hf⟩ := zbind hf
      refine z_sI C hσ7 dX1_addUp_36 ?_
      refine z_aload_n C dX1_addUp_37 rfl 1 rfl ?_
      obtain ⟨v8, hv8, hf⟩ := zbind hf
      refine gf_RX1_21 C hv8 dX1_addUp_38 ?_
      refine z_iload_n C dX1_addUp_41 rfl 2 rfl ?_
      refine z_dup2 C dX1_addUp_42 rfl rfl ?_
      obtain ⟨v9, hv9, hf⟩ := zbind hf
      refine z_aI C hv9 dX1_addUp_43 ?_
      refine z_iconst C 1 dX1_addUp_44 (by decide) ?_
      refine z_iadd C dX1_addUp_45 ?_
      obtain ⟨σ10, hσ10, hf⟩ := zbind hf
      refine z_sI C hσ10 dX1_addUp_46 ?_
      refine z_aload_n C dX1_addUp_47 rfl 1 rfl ?_
      obtain ⟨v11, hv11, hf⟩ := zbind hf
      refine gf_RX1_30 C hv11 dX1_addUp_48 ?_
      refine z_aload_n C dX1_addUp_51 rfl 1 rfl ?_
      refine z_iload_n C dX1_addUp_52 rfl 2 rfl ?_
      refine z_iload_n C dX1_addUp_53 rfl 3 rfl ?_
      obtain ⟨c12, hc12, hf⟩ := zbind hf
      obtain ⟨kc12, hc12⟩ := zck_ok hc12
      refine z_callVi (As := [.int x1, .int x2]) (F0 := 2) (L0 := 43) C (mX1_channelForResult l D Ca B En C.2.2.2.2.2.2.2.1 σ10 N x0 x1 x2 _ hc12) hRm kc12 rfl kw_801 kw_8 kw_798 kw_800 kp_27 hyX1_channelForResult (Nat.le_of_ble_eq_true rfl) (Nat.le_of_ble_eq_true rfl) rfl rfl (Nat.le_of_ble_eq_true rfl) dX1_addUp_54 ?_
      refine z_iload_n C dX1_addUp_57 rfl 3 rfl ?_
      obtain ⟨c13, hc13, hf⟩ := zbind hf
      obtain ⟨kc13, hc13⟩ := zck_ok hc13
      refine z_callVv (As := [.int c12.2, .int x2]) (F0 := 2) (L0 := 43) C (mX3_add l D Ca B En C.2.2.2.2.2.2.2.1 c12.1 N v11 c12.2 x2 _ hc13) hRm kc13 rfl kw_346 kw_9 kw_343 kw_344 kw_345 hyX3_add (Nat.le_of_ble_eq_true rfl) (Nat.le_of_ble_eq_true rfl) rfl rfl (Nat.le_of_ble_eq_true rfl) dX1_addUp_58 ?_
      cases hf
      exact hq _ _ dX1_addUp_61
    · rw [if_neg q14] at hf
      cases hf
      exact hq _ _ dX1_addUp_19

theorem mX1_addUp (l : Launch) (D : va_G) (Ca : Nat → ClassId) (B : Nat) (En : State → Prop) (hE : zEk B En) (σ : zS) (N : Nat) (x0 : Nat) (x1 : Int32) (x2 : Int32) (X : zS) (hf : fX1_addUp σ x0 x1 x2 = some X) : zMv l D Ca B En yX1_addUp cX1_addUp 4 (Option.none : Option Jvm.ClassFile.FieldType) 2 43 [.ref x0, .int x1, .int x2] σ N X () :=
  zMet_v (own := RX1) hE (by decide +kernel) rfl (Nat.le_of_ble_eq_true rfl) (fun p e s m args below meth c C hr hRm => wfX1_addUp C hRm σ x0 x1 x2 X hf (fun pc lv hd => zfin_v (r := ()) C hr hd))
theorem dX1_take_0 : decode cX1_take 0 = .ok (.iload_n 2, 1) := by decide +kernel
theorem dX1_take_1 : decode cX1_take 1 = .ok (.iconst (-1), 1) := by decide +kernel
theorem dX1_take_2 : decode cX1_take 2 = .ok (.if_icmp .ne 4, 3) := by decide +kernel
theorem dX1_take_5 : decode cX1_take 5 = .ok (.return_, 1) := by decide +kernel
theorem dX1_take_6 : decode cX1_take 6 = .ok (.aload_n 0, 1) := by decide +kernel
theorem dX1_take_7 : decode cX1_take 7 = .ok (.getfield 44, 3) := by decide +kernel
theorem dX1_take_10 : decode cX1_take 10 = .ok (.iload_n 1, 1) := by decide +kernel
theorem dX1_take_11 : decode cX1_take 11 = .ok (.iload_n 2, 1) := by decide +kernel
theorem dX1_take_12 : decode cX1_take 12 = .ok (.iconst 1, 1) := by decide +kernel
theorem dX1_take_13 : decode cX1_take 13 = .ok (.iadd, 1) := by decide +kernel
theorem dX1_take_14 : decode cX1_take 14 = .ok (.iastore, 1) := by decide +kernel
theorem dX1_take_15 : decode cX1_take 15 = .ok (.iload_n 1, 1) := by decide +kernel
theorem dX1_take_16 : decode cX1_take 16 = .ok (.iload_n 2, 1) := by decide +kernel
theorem dX1_take_17 : decode cX1_take 17 = .ok (.invokestatic 190, 3) := by decide +kernel
theorem dX1_take_20 : decode cX1_take 20 = .ok (.istore_n 3, 1) := by decide +kernel
theorem dX1_take_21 : decode cX1_take 21 = .ok (.aload_n 0, 1) := by decide +kernel
theorem dX1_take_22 : decode cX1_take 22 = .ok (.getfield 47, 3) := by decide +kernel
theorem dX1_take_25 : decode cX1_take 25 = .ok (.iload_n 3, 1) := by decide +kernel
theorem dX1_take_26 : decode cX1_take 26 = .ok (.iaload, 1) := by decide +kernel
theorem dX1_take_27 : decode cX1_take 27 = .ok (.ifCond .ne 10, 3) := by decide +kernel
theorem dX1_take_30 : decode cX1_take 30 = .ok (.aload_n 0, 1) := by decide +kernel
theorem dX1_take_31 : decode cX1_take 31 = .ok (.iload_n 1, 1) := by decide +kernel
theorem dX1_take_32 : decode cX1_take 32 = .ok (.iload_n 2, 1) := by decide +kernel
theorem dX1_take_33 : decode cX1_take 33 = .ok (.invokevirtual 218, 3) := by decide +kernel
theorem dX1_take_36 : decode cX1_take 36 = .ok (.return_, 1) := by decide +kernel
theorem dX1_take_37 : decode cX1_take 37 = .ok (.aload_n 0, 1) := by decide +kernel
theorem dX1_take_38 : decode cX1_take 38 = .ok (.getfield 47, 3) := by decide +kernel
theorem dX1_take_41 : decode cX1_take 41 = .ok (.iload_n 3, 1) := by decide +kernel
theorem dX1_take_42 : decode cX1_take 42 = .ok (.iaload, 1) := by decide +kernel
theorem dX1_take_43 : decode cX1_take 43 = .ok (.ifCond .le 13, 3) := by decide +kernel
theorem dX1_take_46 : decode cX1_take 46 = .ok (.aload_n 0, 1) := by decide +kernel
theorem dX1_take_47 : decode cX1_take 47 = .ok (.getfield 47, 3) := by decide +kernel
theorem dX1_take_50 : decode cX1_take 50 = .ok (.iload_n 3, 1) := by decide +kernel
theorem dX1_take_51 : decode cX1_take 51 = .ok (.dup2, 1) := by decide +kernel
theorem dX1_take_52 : decode cX1_take 52 = .ok (.iaload, 1) := by decide +kernel
theorem dX1_take_53 : decode cX1_take 53 = .ok (.iconst 1, 1) := by decide +kernel
theorem dX1_take_54 : decode cX1_take 54 = .ok (.isub, 1) := by decide +kernel
theorem dX1_take_55 : decode cX1_take 55 = .ok (.iastore, 1) := by decide +kernel
theorem dX1_take_56 : decode cX1_take 56 = .ok (.aload_n 0, 1) := by decide +kernel
theorem dX1_take_57 : decode cX1_take 57 = .ok (.getfield 30, 3) := by decide +kernel
theorem dX1_take_60 : decode cX1_take 60 = .ok (.iload_n 3, 1) := by decide +kernel
theorem dX1_take_61 : decode cX1_take 61 = .ok (.invokevirtual 234, 3) := by decide +kernel
theorem dX1_take_64 : decode cX1_take 64 = .ok (.istore 4, 2) := by decide +kernel
theorem dX1_take_66 : decode cX1_take 66 = .ok (.aload_n 0, 1) := by decide +kernel
theorem dX1_take_67 : decode cX1_take 67 = .ok (.getfield 37, 3) := by decide +kernel
theorem dX1_take_70 : decode cX1_take 70 = .ok (.invokevirtual 212, 3) := by decide +kernel
theorem dX1_take_73 : decode cX1_take 73 = .ok (.ifCond .eq 25, 3) := by decide +kernel
theorem dX1_take_76 : decode cX1_take 76 = .ok (.aload_n 0, 1) := by decide +kernel
theorem dX1_take_77 : decode cX1_take 77 = .ok (.getfield 37, 3) := by decide +kernel
theorem dX1_take_80 : decode cX1_take 80 = .ok (.iload_n 1, 1) := by decide +kernel
theorem dX1_take_81 : decode cX1_take 81 = .ok (.iload_n 2, 1) := by decide +kernel
theorem dX1_take_82 : decode cX1_take 82 = .ok (.invokevirtual 237, 3) := by decide +kernel
theorem dX1_take_85 : decode cX1_take 85 = .ok (.ifCond .eq 13, 3) := by decide +kernel
theorem dX1_take_88 : decode cX1_take 88 = .ok (.aload_n 0, 1) := by decide +kernel
theorem dX1_take_89 : decode cX1_take 89 = .ok (.getfield 37, 3) := by decide +kernel
theorem dX1_take_92 : decode cX1_take 92 = .ok (.iload_n 3, 1) := by decide +kernel
theorem dX1_take_93 : decode cX1_take 93 = .ok (.iload 4, 2) := by decide +kernel
theorem dX1_take_95 : decode cX1_take 95 = .ok (.invokevirtual 240, 3) := by decide +kernel
theorem dX1_take_98 : decode cX1_take 98 = .ok (.iload_n 1, 1) := by decide +kernel
theorem dX1_take_99 : decode cX1_take 99 = .ok (.iconst 4, 1) := by decide +kernel
theorem dX1_take_100 : decode cX1_take 100 = .ok (.if_icmp .ge 13, 3) := by decide +kernel
theorem dX1_take_103 : decode cX1_take 103 = .ok (.aload_n 0, 1) := by decide +kernel
theorem dX1_take_104 : decode cX1_take 104 = .ok (.iload_n 1, 1) := by decide +kernel
theorem dX1_take_105 : decode cX1_take 105 = .ok (.iload 4, 2) := by decide +kernel
theorem dX1_take_107 : decode cX1_take 107 = .ok (.invokevirtual 243, 3) := by decide +kernel
theorem dX1_take_110 : decode cX1_take 110 = .ok (.goto 18, 3) := by decide +kernel
theorem dX1_take_113 : decode cX1_take 113 = .ok (.aload_n 0, 1) := by decide +kernel
theorem dX1_take_114 : decode cX1_take 114 = .ok (.getfield 30, 3) := by decide +kernel
theorem dX1_take_117 : decode cX1_take 117 = .ok (.bipush 24, 2) := by decide +kernel
theorem dX1_take_119 : decode cX1_take 119 = .ok (.iload_n 1, 1) := by decide +kernel
theorem dX1_take_120 : decode cX1_take 120 = .ok (.iadd, 1) := by decide +kernel
theorem dX1_take_121 : decode cX1_take 121 = .ok (.iconst 4, 1) := by decide +kernel
theorem dX1_take_122 : decode cX1_take 122 = .ok (.isub, 1) := by decide +kernel
theorem dX1_take_123 : decode cX1_take 123 = .ok (.iload 4, 2) := by decide +kernel
theorem dX1_take_125 : decode cX1_take 125 = .ok (.invokevirtual 209, 3) := by decide +kernel
theorem dX1_take_128 : decode cX1_take 128 = .ok (.return_, 1) := by decide +kernel
theorem hyX1_take : yX1_take.cls ≠ "java/lang/invoke/MethodHandle" ∧ yX1_take.cls ≠ "java/lang/invoke/VarHandle" ∧ (parseMethodDescriptor yX1_take.desc).map (fun d => d.parameters.length) = some 2 := ⟨by decide +kernel, by decide +kernel, by decide +kernel⟩
def jX1_take_98 (σ : zS) (x0 : Nat) (x1 : Int32) (x4 : Int32)  : Option zS :=
  (if 4 ≤ x1 then (zgR 1 14 σ x0).bind fun v12 => (zck 3 σ v12 (fX3_add σ v12 ((24 + x1) - 4) x4)).bind fun c13 => some c13 else (zck 1 σ x0 (fX1_addUp σ x0 x1 x4)).bind fun c14 => some c14)
set_option maxRecDepth 100000 in
set_option maxHeartbeats 4000000 in
theorem wjX1_take_98 (C : zC p s m args meth c cX1_take RX1 5 D Ca B En) (hRm : zRm R 4 92 cells slots) (σ : zS) (x0 : Nat) (x1 : Int32) (x4 : Int32)  (τ : zS) (hf : jX1_take_98 σ x0 x1 x4  = some τ) (hq : ∀ (pc : Nat) (lv : List (Nat × Value)), decode cX1_take pc = .ok (.return_, 1) → zW p l e R s m args below meth c cells slots Q D Ca B 5 τ N pc lv []) : zW p l e R s m args below meth c cells slots Q D Ca B 5 σ N 98 [(0, .ref x0), (1, .int x1), (4, .int x4)] [] := by
  unfold jX1_take_98 at hf
  refine z_iload_n C dX1_take_98 rfl 1 rfl ?_
  refine z_iconst C 4 dX1_take_99 (by decide) ?_
  refine z_icmp_ge C 113 dX1_take_100 (by decide) (fun q15 => ?_) (fun q15 => ?_)
  · rw [if_pos q15] at hf
    refine z_aload_n C dX1_take_113 rfl 0 rfl ?_
    obtain ⟨v12, hv12, hf⟩ := zbind hf
    refine gf_RX1_30 C hv12 dX1_take_114 ?_
    refine z_bipush C 24 dX1_take_117 (by decide) ?_
    refine z_iload_n C dX1_take_119 rfl 1 rfl ?_
    refine z_iadd C dX1_take_120 ?_
    refine z_iconst C 4 dX1_take_121 (by decide) ?_
    refine z_isub C dX1_take_122 ?_
    refine z_iload C dX1_take_123 2 rfl ?_
    obtain ⟨c13, hc13, hf⟩ := zbind hf
    obtain ⟨kc13, hc13⟩ := zck_ok hc13
    refine z_callVv (As := [.int ((24 + x1) - 4), .int x4]) (F0 := 4) (L0 := 92) C (mX3_add l D Ca B En C.2.2.2.2.2.2.2.1 σ N v12 ((24 + x1) - 4) x4 _ hc13) hRm kc13 rfl kw_346 kw_9 kw_343 kw_344 kw_345 hyX3_add (Nat.le_of_ble_eq_true rfl) (Nat.le_of_ble_eq_true rfl) rfl rfl (Nat.le_of_ble_eq_true rfl) dX1_take_125 ?_
    cases hf
    exact hq _ _ dX1_take_128
  · rw [if_neg q15] at hf
    refine z_aload_n C dX1_take_103 rfl 0 rfl ?_
    refine z_iload_n C dX1_take_104 rfl 1 rfl ?_
    refine z_iload C dX1_take_105 2 rfl ?_
    obtain ⟨c14, hc14, hf⟩ := zbind hf
    obtain ⟨kc14, hc14⟩ := zck_ok hc14
    refine z_callVv (As := [.int x1, .int x4]) (F0 := 4) (L0 := 92) C (mX1_addUp l D Ca B En C.2.2.2.2.2.2.2.1 σ N x0 x1 x4 _ hc14) hRm kc14 rfl kw_827 kw_8 kw_824 kw_826 kp_29 hyX1_addUp (Nat.le_of_ble_eq_true rfl) (Nat.le_of_ble_eq_true rfl) rfl rfl (Nat.le_of_ble_eq_true rfl) dX1_take_107 ?_
    refine z_goto C 128 dX1_take_110 (by decide) ?_
    cases hf
    exact hq _ _ dX1_take_128

def jX1_take_56 (σ : zS) (x0 : Nat) (x1 : Int32) (x2 : Int32) (x3 : Int32)  : Option zS :=
  (zgR 1 14 σ x0).bind fun v8 => (zck 3 σ v8 (fX3_takeFirst σ v8 x3)).bind fun c9 => (zgR 1 15 c9.1 x0).bind fun v10 => (zck 0 c9.1 v10 (fX0_isOvertaking c9.1 v10 )).bind fun c11 => (if c11.2 = 0 then jX1_take_98 c11.1 x0 x1 c9.2 else (zgR 1 15 c11.1 x0).bind fun v16 => (zck 0 c11.1 v16 (fX0_isOnlyBehind c11.1 v16 x1 x2)).bind fun c17 => (if c17.2 = 0 then jX1_take_98 c17.1 x0 x1 c9.2 else (zgR 1 15 c17.1 x0).bind fun v18 => (zck 0 c17.1 v18 (fX0_keep c17.1 v18 x3 c9.2)).bind fun c19 => jX1_take_98 c19 x0 x1 c9.2))
set_option maxRecDepth 100000 in
set_option maxHeartbeats 4000000 in
theorem wjX1_take_56 (C : zC p s m args meth c cX1_take RX1 5 D Ca B En) (hRm : zRm R 4 92 cells slots) (σ : zS) (x0 : Nat) (x1 : Int32) (x2 : Int32) (x3 : Int32)  (τ : zS) (hf : jX1_take_56 σ x0 x1 x2 x3  = some τ) (hq : ∀ (pc : Nat) (lv : List (Nat × Value)), decode cX1_take pc = .ok (.return_, 1) → zW p l e R s m args below meth c cells slots Q D Ca B 5 τ N pc lv []) : zW p l e R s m args below meth c cells slots Q D Ca B 5 σ N 56 [(0, .ref x0), (1, .int x1), (2, .int x2), (3, .int x3)] [] := by
  unfold jX1_take_56 at hf
  refine z_aload_n C dX1_take_56 rfl 0 rfl ?_
  obtain ⟨v8, hv8, hf⟩ := zbind hf
  refine gf_RX1_30 C hv8 dX1_take_57 ?_
  refine z_iload_n C dX1_take_60 rfl 3 rfl ?_
  obtain ⟨c9, hc9, hf⟩ := zbind hf
  obtain ⟨kc9, hc9⟩ := zck_ok hc9
  refine z_callVi (As := [.int x3]) (F0 := 4) (L0 := 92) C (mX3_takeFirst l D Ca B En C.2.2.2.2.2.2.2.1 σ N v8 x3 _ hc9) hRm kc9 rfl kw_813 kw_9 kw_810 kw_811 kw_812 hyX3_takeFirst (Nat.le_of_ble_eq_true rfl) (Nat.le_of_ble_eq_true rfl) rfl rfl (Nat.le_of_ble_eq_true rfl) dX1_take_61 ?_
  refine z_istore (lv2 := [(4, .int c9.2), (0, .ref x0), (1, .int x1), (2, .int x2), (3, .int x3)]) C dX1_take_64 (by decide) rfl ?_
  refine z_aload_n C dX1_take_66 rfl 1 rfl ?_
  obtain ⟨v10, hv10, hf⟩ := zbind hf
  refine gf_RX1_37 C hv10 dX1_take_67 ?_
  obtain ⟨c11, hc11, hf⟩ := zbind hf
  obtain ⟨kc11, hc11⟩ := zck_ok hc11
  refine z_callVi (As := []) (F0 := 4) (L0 := 92) C (mX0_isOvertaking l D Ca B En C.2.2.2.2.2.2.2.1 c9.1 N v10  _ hc11) hRm kc11 rfl kw_766 kw_10 kw_763 kw_764 kw_765 hyX0_isOvertaking (Nat.le_of_ble_eq_true rfl) (Nat.le_of_ble_eq_true rfl) rfl rfl (Nat.le_of_ble_eq_true rfl) dX1_take_70 ?_
  refine z_if_eq C 98 dX1_take_73 (by decide) (fun q21 => ?_) (fun q21 => ?_)
  · rw [if_pos q21] at hf
    refine z_sub [1, 2, 0] rfl ?_
    exact wjX1_take_98 C hRm _ _ _ _  _ hf hq
  · rw [if_neg q21] at hf
    refine z_aload_n C dX1_take_76 rfl 1 rfl ?_
    obtain ⟨v16, hv16, hf⟩ := zbind hf
    refine gf_RX1_37 C hv16 dX1_take_77 ?_
    refine z_iload_n C dX1_take_80 rfl 2 rfl ?_
    refine z_iload_n C dX1_take_81 rfl 3 rfl ?_
    obtain ⟨c17, hc17, hf⟩ := zbind hf
    obtain ⟨kc17, hc17⟩ := zck_ok hc17
    refine z_callVi (As := [.int x1, .int x2]) (F0 := 4) (L0 := 92) C (mX0_isOnlyBehind l D Ca B En C.2.2.2.2.2.2.2.1 c11.1 N v16 x1 x2 _ hc17) hRm kc17 rfl kw_818 kw_10 kw_815 kw_816 kw_817 hyX0_isOnlyBehind (Nat.le_of_ble_eq_true rfl) (Nat.le_of_ble_eq_true rfl) rfl rfl (Nat.le_of_ble_eq_true rfl) dX1_take_82 ?_
    refine z_if_eq C 98 dX1_take_85 (by decide) (fun q20 => ?_) (fun q20 => ?_)
    · rw [if_pos q20] at hf
      refine z_sub [1, 2, 0] rfl ?_
      exact wjX1_take_98 C hRm _ _ _ _  _ hf hq
    · rw [if_neg q20] at hf
      refine z_aload_n C dX1_take_88 rfl 1 rfl ?_
      obtain ⟨v18, hv18, hf⟩ := zbind hf
      refine gf_RX1_37 C hv18 dX1_take_89 ?_
      refine z_iload_n C dX1_take_92 rfl 4 rfl ?_
      refine z_iload C dX1_take_93 0 rfl ?_
      obtain ⟨c19, hc19, hf⟩ := zbind hf
      obtain ⟨kc19, hc19⟩ := zck_ok hc19
      refine z_callVv (As := [.int x3, .int c9.2]) (F0 := 4) (L0 := 92) C (mX0_keep l D Ca B En C.2.2.2.2.2.2.2.1 c17.1 N v18 x3 c9.2 _ hc19) hRm kc19 rfl kw_822 kw_10 kw_819 kw_820 kw_821 hyX0_keep (Nat.le_of_ble_eq_true rfl) (Nat.le_of_ble_eq_true rfl) rfl rfl (Nat.le_of_ble_eq_true rfl) dX1_take_95 ?_
      refine z_sub [1, 2, 0] rfl ?_
      exact wjX1_take_98 C hRm _ _ _ _  _ hf hq

def fX1_take (σ : zS) (x0 : Nat) (x1 : Int32) (x2 : Int32) : Option zS :=
  (if x2 = ((-1)) then some σ else (zgR 1 18 σ x0).bind fun v1 => (zsI σ v1 x1 (x2 + 1)).bind fun σ2 => (fX9_channel σ2 x1 x2).bind fun c3 => (zgR 1 19 c3.1 x0).bind fun v4 => (zaI c3.1 v4 c3.2).bind fun v5 => (if v5 = 0 then (zck 1 c3.1 x0 (fX1_letBarrierArrive c3.1 x0 x1 x2)).bind fun c26 => some c26 else (zgR 1 19 c3.1 x0).bind fun v6 => (zaI c3.1 v6 c3.2).bind fun v7 => (if v7 ≤ 0 then jX1_take_56 c3.1 x0 x1 x2 c3.2 else (zgR 1 19 c3.1 x0).bind fun v22 => (zaI c3.1 v22 c3.2).bind fun v23 => (zsI c3.1 v22 c3.2 (v23 - 1)).bind fun σ24 => jX1_take_56 σ24 x0 x1 x2 c3.2)))
set_option maxRecDepth 100000 in
set_option maxHeartbeats 4000000 in
theorem wfX1_take (C : zC p s m args meth c cX1_take RX1 5 D Ca B En) (hRm : zRm R 4 92 cells slots) (σ : zS) (x0 : Nat) (x1 : Int32) (x2 : Int32) (τ : zS) (hf : fX1_take σ x0 x1 x2 = some τ) (hq : ∀ (pc : Nat) (lv : List (Nat × Value)), decode cX1_take pc = .ok (.return_, 1) → zW p l e R s m args below meth c cells slots Q D Ca B 5 τ N pc lv []) : zW p l e R s m args below meth c cells slots Q D Ca B 5 σ N 0 [(0, .ref x0), (1, .int x1), (2, .int x2)] [] := by
  unfold fX1_take at hf
  refine z_iload_n C dX1_take_0 rfl 2 rfl ?_
  refine z_iconst C (-1) dX1_take_1 (by decide) ?_
  refine z_icmp_ne C 6 dX1_take_2 (by decide) (fun q28 => ?_) (fun q28 => ?_)
  · rw [if_neg q28] at hf
    refine z_aload_n C dX1_take_6 rfl 0 rfl ?_
    obtain ⟨v1, hv1, hf⟩ := zbind hf
    refine gf_RX1_44 C hv1 dX1_take_7 ?_
    refine z_iload_n C dX1_take_10 rfl 1 rfl ?_
    refine z_iload_n C dX1_take_11 rfl 2 rfl ?_
    refine z_iconst C 1 dX1_take_12 (by decide) ?_
    refine z_iadd C dX1_take_13 ?_
    obtain ⟨σ2, hσ2, hf⟩ := zbind hf
    refine z_sI C hσ2 dX1_take_14 ?_
    refine z_iload_n C dX1_take_15 rfl 1 rfl ?_
    refine z_iload_n C dX1_take_16 rfl 2 rfl ?_
    obtain ⟨c3, hc3, hf⟩ := zbind hf
    refine z_callSNi (host := "BarrierFlow") (As := [.int x1, .int x2]) (F0 := 4) (L0 := 92) C (mX9_channel l D Ca B En C.2.2.2.2.2.2.2.1 σ2 N x1 x2 _ hc3) hRm kw_686 kw_1 (by decide) kw_685 hyX9_channel (Nat.le_of_ble_eq_true rfl) (Nat.le_of_ble_eq_true rfl) rfl rfl (Nat.le_of_ble_eq_true rfl) dX1_take_17 ?_
    refine z_istore_n (lv2 := [(3, .int c3.2), (0, .ref x0), (1, .int x1), (2, .int x2)]) C dX1_take_20 rfl (by decide) rfl ?_
    refine z_aload_n C dX1_take_21 rfl 1 rfl ?_
    obtain ⟨v4, hv4, hf⟩ := zbind hf
    refine gf_RX1_47 C hv4 dX1_take_22 ?_
    refine z_iload_n C dX1_take_25 rfl 0 rfl ?_
    obtain ⟨v5, hv5, hf⟩ := zbind hf
    refine z_aI C hv5 dX1_take_26 ?_
    refine z_if_ne C 37 dX1_take_27 (by decide) (fun q27 => ?_) (fun q27 => ?_)
    · rw [if_neg q27] at hf
      refine z_aload_n C dX1_take_37 rfl 1 rfl ?_
      obtain ⟨v6, hv6, hf⟩ := zbind hf
      refine gf_RX1_47 C hv6 dX1_take_38 ?_
      refine z_iload_n C dX1_take_41 rfl 0 rfl ?_
      obtain ⟨v7, hv7, hf⟩ := zbind hf
      refine z_aI C hv7 dX1_take_42 ?_
      refine z_if_le C 56 dX1_take_43 (by decide) (fun q25 => ?_) (fun q25 => ?_)
      · rw [if_pos q25] at hf
        refine z_sub [1, 2, 3, 0] rfl ?_
        exact wjX1_take_56 C hRm _ _ _ _ _  _ hf hq
      · rw [if_neg q25] at hf
        refine z_aload_n C dX1_take_46 rfl 1 rfl ?_
        obtain ⟨v22, hv22, hf⟩ := zbind hf
        refine gf_RX1_47 C hv22 dX1_take_47 ?_
        refine z_iload_n C dX1_take_50 rfl 0 rfl ?_
        refine z_dup2 C dX1_take_51 rfl rfl ?_
        obtain ⟨v23, hv23, hf⟩ := zbind hf
        refine z_aI C hv23 dX1_take_52 ?_
        refine z_iconst C 1 dX1_take_53 (by decide) ?_
        refine z_isub C dX1_take_54 ?_
        obtain ⟨σ24, hσ24, hf⟩ := zbind hf
        refine z_sI C hσ24 dX1_take_55 ?_
        refine z_sub [1, 2, 3, 0] rfl ?_
        exact wjX1_take_56 C hRm _ _ _ _ _  _ hf hq
    · rw [if_pos q27] at hf
      refine z_aload_n C dX1_take_30 rfl 1 rfl ?_
      refine z_iload_n C dX1_take_31 rfl 2 rfl ?_
      refine z_iload_n C dX1_take_32 rfl 3 rfl ?_
      obtain ⟨c26, hc26, hf⟩ := zbind hf
      obtain ⟨kc26, hc26⟩ := zck_ok hc26
      refine z_callVv (As := [.int x1, .int x2]) (F0 := 4) (L0 := 92) C (mX1_letBarrierArrive l D Ca B En C.2.2.2.2.2.2.2.1 c3.1 N x0 x1 x2 _ hc26) hRm kc26 rfl kw_775 kw_8 kw_772 kw_774 kp_22 hyX1_letBarrierArrive (Nat.le_of_ble_eq_true rfl) (Nat.le_of_ble_eq_true rfl) rfl rfl (Nat.le_of_ble_eq_true rfl) dX1_take_33 ?_
      cases hf
      exact hq _ _ dX1_take_36
  · rw [if_pos q28] at hf
    cases hf
    exact hq _ _ dX1_take_5

theorem mX1_take (l : Launch) (D : va_G) (Ca : Nat → ClassId) (B : Nat) (En : State → Prop) (hE : zEk B En) (σ : zS) (N : Nat) (x0 : Nat) (x1 : Int32) (x2 : Int32) (X : zS) (hf : fX1_take σ x0 x1 x2 = some X) : zMv l D Ca B En yX1_take cX1_take 5 (Option.none : Option Jvm.ClassFile.FieldType) 4 92 [.ref x0, .int x1, .int x2] σ N X () :=
  zMet_v (own := RX1) hE (by decide +kernel) rfl (Nat.le_of_ble_eq_true rfl) (fun p e s m args below meth c C hr hRm => wfX1_take C hRm σ x0 x1 x2 X hf (fun pc lv hd => zfin_v (r := ()) C hr hd))
theorem dX1_completeIfAllArrived_0 : decode cX1_completeIfAllArrived 0 = .ok (.aload_n 0, 1) := by decide +kernel
theorem dX1_completeIfAllArrived_1 : decode cX1_completeIfAllArrived 1 = .ok (.getfield 37, 3) := by decide +kernel
theorem dX1_completeIfAllArrived_4 : decode cX1_completeIfAllArrived 4 = .ok (.invokevirtual 129, 3) := by decide +kernel
theorem dX1_completeIfAllArrived_7 : decode cX1_completeIfAllArrived 7 = .ok (.ifCond .eq 72, 3) := by decide +kernel
theorem dX1_completeIfAllArrived_10 : decode cX1_completeIfAllArrived 10 = .ok (.aload_n 0, 1) := by decide +kernel
theorem dX1_completeIfAllArrived_11 : decode cX1_completeIfAllArrived 11 = .ok (.getfield 37, 3) := by decide +kernel
theorem dX1_completeIfAllArrived_14 : decode cX1_completeIfAllArrived 14 = .ok (.getfield 186, 3) := by decide +kernel
theorem dX1_completeIfAllArrived_17 : decode cX1_completeIfAllArrived 17 = .ok (.invokestatic 259, 3) := by decide +kernel
theorem dX1_completeIfAllArrived_20 : decode cX1_completeIfAllArrived 20 = .ok (.aload_n 0, 1) := by decide +kernel
theorem dX1_completeIfAllArrived_21 : decode cX1_completeIfAllArrived 21 = .ok (.getfield 54, 3) := by decide +kernel
theorem dX1_completeIfAllArrived_24 : decode cX1_completeIfAllArrived 24 = .ok (.getfield 140, 3) := by decide +kernel
theorem dX1_completeIfAllArrived_27 : decode cX1_completeIfAllArrived 27 = .ok (.if_icmp .lt 52, 3) := by decide +kernel
theorem dX1_completeIfAllArrived_30 : decode cX1_completeIfAllArrived 30 = .ok (.aload_n 0, 1) := by decide +kernel
theorem dX1_completeIfAllArrived_31 : decode cX1_completeIfAllArrived 31 = .ok (.getfield 37, 3) := by decide +kernel
theorem dX1_completeIfAllArrived_34 : decode cX1_completeIfAllArrived 34 = .ok (.iconst 0, 1) := by decide +kernel
theorem dX1_completeIfAllArrived_35 : decode cX1_completeIfAllArrived 35 = .ok (.iconst 4, 1) := by decide +kernel
theorem dX1_completeIfAllArrived_36 : decode cX1_completeIfAllArrived 36 = .ok (.invokevirtual 274, 3) := by decide +kernel
theorem dX1_completeIfAllArrived_39 : decode cX1_completeIfAllArrived 39 = .ok (.aload_n 0, 1) := by decide +kernel
theorem dX1_completeIfAllArrived_40 : decode cX1_completeIfAllArrived 40 = .ok (.getfield 54, 3) := by decide +kernel
theorem dX1_completeIfAllArrived_43 : decode cX1_completeIfAllArrived 43 = .ok (.getfield 140, 3) := by decide +kernel
theorem dX1_completeIfAllArrived_46 : decode cX1_completeIfAllArrived 46 = .ok (.aload_n 0, 1) := by decide +kernel
theorem dX1_completeIfAllArrived_47 : decode cX1_completeIfAllArrived 47 = .ok (.getfield 70, 3) := by decide +kernel
theorem dX1_completeIfAllArrived_50 : decode cX1_completeIfAllArrived 50 = .ok (.imul, 1) := by decide +kernel
theorem dX1_completeIfAllArrived_51 : decode cX1_completeIfAllArrived 51 = .ok (.if_icmp .lt 28, 3) := by decide +kernel
theorem dX1_completeIfAllArrived_54 : decode cX1_completeIfAllArrived 54 = .ok (.aload_n 0, 1) := by decide +kernel
theorem dX1_completeIfAllArrived_55 : decode cX1_completeIfAllArrived 55 = .ok (.getfield 37, 3) := by decide +kernel
theorem dX1_completeIfAllArrived_58 : decode cX1_completeIfAllArrived 58 = .ok (.iconst 4, 1) := by decide +kernel
theorem dX1_completeIfAllArrived_59 : decode cX1_completeIfAllArrived 59 = .ok (.bipush 6, 2) := by decide +kernel
theorem dX1_completeIfAllArrived_61 : decode cX1_completeIfAllArrived 61 = .ok (.invokevirtual 274, 3) := by decide +kernel
theorem dX1_completeIfAllArrived_64 : decode cX1_completeIfAllArrived 64 = .ok (.aload_n 0, 1) := by decide +kernel
theorem dX1_completeIfAllArrived_65 : decode cX1_completeIfAllArrived 65 = .ok (.getfield 70, 3) := by decide +kernel
theorem dX1_completeIfAllArrived_68 : decode cX1_completeIfAllArrived 68 = .ok (.aload_n 0, 1) := by decide +kernel
theorem dX1_completeIfAllArrived_69 : decode cX1_completeIfAllArrived 69 = .ok (.getfield 54, 3) := by decide +kernel
theorem dX1_completeIfAllArrived_72 : decode cX1_completeIfAllArrived 72 = .ok (.getfield 161, 3) := by decide +kernel
theorem dX1_completeIfAllArrived_75 : decode cX1_completeIfAllArrived 75 = .ok (.imul, 1) := by decide +kernel
theorem dX1_completeIfAllArrived_76 : decode cX1_completeIfAllArrived 76 = .ok (.if_icmp .ge 4, 3) := by decide +kernel
theorem dX1_completeIfAllArrived_79 : decode cX1_completeIfAllArrived 79 = .ok (.return_, 1) := by decide +kernel
theorem dX1_completeIfAllArrived_80 : decode cX1_completeIfAllArrived 80 = .ok (.aload_n 0, 1) := by decide +kernel
theorem dX1_completeIfAllArrived_81 : decode cX1_completeIfAllArrived 81 = .ok (.getfield 37, 3) := by decide +kernel
theorem dX1_completeIfAllArrived_84 : decode cX1_completeIfAllArrived 84 = .ok (.aload_n 0, 1) := by decide +kernel
theorem dX1_completeIfAllArrived_85 : decode cX1_completeIfAllArrived 85 = .ok (.getfield 93, 3) := by decide +kernel
theorem dX1_completeIfAllArrived_88 : decode cX1_completeIfAllArrived 88 = .ok (.putfield 277, 3) := by decide +kernel
theorem dX1_completeIfAllArrived_91 : decode cX1_completeIfAllArrived 91 = .ok (.aload_n 0, 1) := by decide +kernel
theorem dX1_completeIfAllArrived_92 : decode cX1_completeIfAllArrived 92 = .ok (.getfield 41, 3) := by decide +kernel
theorem dX1_completeIfAllArrived_95 : decode cX1_completeIfAllArrived 95 = .ok (.astore_n 1, 1) := by decide +kernel
theorem dX1_completeIfAllArrived_96 : decode cX1_completeIfAllArrived 96 = .ok (.aload_n 0, 1) := by decide +kernel
theorem dX1_completeIfAllArrived_97 : decode cX1_completeIfAllArrived 97 = .ok (.aload_n 0, 1) := by decide +kernel
theorem dX1_completeIfAllArrived_98 : decode cX1_completeIfAllArrived 98 = .ok (.getfield 37, 3) := by decide +kernel
theorem dX1_completeIfAllArrived_101 : decode cX1_completeIfAllArrived 101 = .ok (.putfield 41, 3) := by decide +kernel
theorem dX1_completeIfAllArrived_104 : decode cX1_completeIfAllArrived 104 = .ok (.aload_n 0, 1) := by decide +kernel
theorem dX1_completeIfAllArrived_105 : decode cX1_completeIfAllArrived 105 = .ok (.aload_n 1, 1) := by decide +kernel
theorem dX1_completeIfAllArrived_106 : decode cX1_completeIfAllArrived 106 = .ok (.putfield 37, 3) := by decide +kernel
theorem dX1_completeIfAllArrived_109 : decode cX1_completeIfAllArrived 109 = .ok (.aload_n 0, 1) := by decide +kernel
theorem dX1_completeIfAllArrived_110 : decode cX1_completeIfAllArrived 110 = .ok (.getfield 37, 3) := by decide +kernel
theorem dX1_completeIfAllArrived_113 : decode cX1_completeIfAllArrived 113 = .ok (.iconst 0, 1) := by decide +kernel
theorem dX1_completeIfAllArrived_114 : decode cX1_completeIfAllArrived 114 = .ok (.putfield 110, 3) := by decide +kernel
theorem dX1_completeIfAllArrived_117 : decode cX1_completeIfAllArrived 117 = .ok (.aload_n 0, 1) := by decide +kernel
theorem dX1_completeIfAllArrived_118 : decode cX1_completeIfAllArrived 118 = .ok (.dup, 1) := by decide +kernel
theorem dX1_completeIfAllArrived_119 : decode cX1_completeIfAllArrived 119 = .ok (.getfield 99, 3) := by decide +kernel
theorem dX1_completeIfAllArrived_122 : decode cX1_completeIfAllArrived 122 = .ok (.iconst 1, 1) := by decide +kernel
theorem dX1_completeIfAllArrived_123 : decode cX1_completeIfAllArrived 123 = .ok (.iadd, 1) := by decide +kernel
theorem dX1_completeIfAllArrived_124 : decode cX1_completeIfAllArrived 124 = .ok (.putfield 99, 3) := by decide +kernel
theorem dX1_completeIfAllArrived_127 : decode cX1_completeIfAllArrived 127 = .ok (.return_, 1) := by decide +kernel
theorem hyX1_completeIfAllArrived : yX1_completeIfAllArrived.cls ≠ "java/lang/invoke/MethodHandle" ∧ yX1_completeIfAllArrived.cls ≠ "java/lang/invoke/VarHandle" ∧ (parseMethodDescriptor yX1_completeIfAllArrived.desc).map (fun d => d.parameters.length) = some 0 := ⟨by decide +kernel, by decide +kernel, by decide +kernel⟩
def fX1_completeIfAllArrived (σ : zS) (x0 : Nat) : Option zS :=
  (zgR 1 15 σ x0).bind fun v1 => (zck 0 σ v1 (fX0_exists σ v1 )).bind fun c2 => (if c2.2 = 0 then some c2.1 else (zgR 1 15 c2.1 x0).bind fun v3 => (zgI 0 5 c2.1 v3).bind fun v4 => (fJ6_bitCount_0f7a4 c2.1 v4).bind fun c5 => (zgR 1 17 c5.1 x0).bind fun v6 => (zgI 7 0 c5.1 v6).bind fun v7 => (if c5.2 < v7 then some c5.1 else (zgR 1 15 c5.1 x0).bind fun v8 => (zck 0 c5.1 v8 (fX0_arrivedFrom c5.1 v8 0 4)).bind fun c9 => (zgR 1 17 c9.1 x0).bind fun v10 => (zgI 7 0 c9.1 v10).bind fun v11 => (zgI 1 0 c9.1 x0).bind fun v12 => (if c9.2 < (v11 * v12) then some c9.1 else (zgR 1 15 c9.1 x0).bind fun v13 => (zck 0 c9.1 v13 (fX0_arrivedFrom c9.1 v13 4 6)).bind fun c14 => (zgI 1 0 c14.1 x0).bind fun v15 => (zgR 1 17 c14.1 x0).bind fun v16 => (zgI 7 1 c14.1 v16).bind fun v17 => (if (v15 * v17) ≤ c14.2 then (zgR 1 15 c14.1 x0).bind fun v18 => (zgI 1 4 c14.1 x0).bind fun v19 => (zpI 0 2 c14.1 v18 v19).bind fun σ20 => (zgR 1 16 σ20 x0).bind fun v21 => (zgR 1 15 σ20 x0).bind fun v22 => (zpR 1 16 σ20 x0 (some v22)).bind fun σ23 => (zpR 1 15 σ23 x0 (some v21)).bind fun σ24 => (zgR 1 15 σ24 x0).bind fun v25 => (zpI 0 0 σ24 v25 0).bind fun σ26 => (zgI 1 6 σ26 x0).bind fun v27 => (zpI 1 6 σ26 x0 (v27 + 1)).bind fun σ28 => some σ28 else some c14.1))))
set_option maxRecDepth 100000 in
set_option maxHeartbeats 4000000 in
theorem wfX1_completeIfAllArrived (C : zC p s m args meth c cX1_completeIfAllArrived RX1 2 D Ca B En) (hRm : zRm R 2 44 cells slots) (σ : zS) (x0 : Nat) (τ : zS) (hf : fX1_completeIfAllArrived σ x0 = some τ) (hq : ∀ (pc : Nat) (lv : List (Nat × Value)), decode cX1_completeIfAllArrived pc = .ok (.return_, 1) → zW p l e R s m args below meth c cells slots Q D Ca B 2 τ N pc lv []) : zW p l e R s m args below meth c cells slots Q D Ca B 2 σ N 0 [(0, .ref x0)] [] := by
  unfold fX1_completeIfAllArrived at hf
  refine z_aload_n C dX1_completeIfAllArrived_0 rfl 0 rfl ?_
  obtain ⟨v1, hv1, hf⟩ := zbind hf
  refine gf_RX1_37 C hv1 dX1_completeIfAllArrived_1 ?_
  obtain ⟨c2, hc2, hf⟩ := zbind hf
  obtain ⟨kc2, hc2⟩ := zck_ok hc2
  refine z_callVi (As := []) (F0 := 2) (L0 := 44) C (mX0_exists l D Ca B En C.2.2.2.2.2.2.2.1 σ N v1  _ hc2) hRm kc2 rfl kw_318 kw_10 kw_315 kw_316 kw_317 hyX0_exists (Nat.le_of_ble_eq_true rfl) (Nat.le_of_ble_eq_true rfl) rfl rfl (Nat.le_of_ble_eq_true rfl) dX1_completeIfAllArrived_4 ?_
  refine z_if_eq C 79 dX1_completeIfAllArrived_7 (by decide) (fun q32 => ?_) (fun q32 => ?_)
  · rw [if_pos q32] at hf
    cases hf
    exact hq _ _ dX1_completeIfAllArrived_79
  · rw [if_neg q32] at hf
    refine z_aload_n C dX1_completeIfAllArrived_10 rfl 0 rfl ?_
    obtain ⟨v3, hv3, hf⟩ := zbind hf
    refine gf_RX1_37 C hv3 dX1_completeIfAllArrived_11 ?_
    obtain ⟨v4, hv4, hf⟩ := zbind hf
    refine gf_RX1_186 C hv4 dX1_completeIfAllArrived_14 ?_
    obtain ⟨c5, hc5, hf⟩ := zbind hf
    refine z_callSi (As := [.int v4]) (F0 := 2) (L0 := 44) C (mJ6_bitCount_0f7a4 l D Ca B En C.2.2.2.2.2.2.2.1 c2.1 N v4 _ hc5) hRm kw_786 kw_25 kw_784 kw_785 hyJ6_bitCount_0f7a4 (Nat.le_of_ble_eq_true rfl) (Nat.le_of_ble_eq_true rfl) rfl rfl (Nat.le_of_ble_eq_true rfl) dX1_completeIfAllArrived_17 ?_
    refine z_aload_n C dX1_completeIfAllArrived_20 rfl 0 rfl ?_
    obtain ⟨v6, hv6, hf⟩ := zbind hf
    refine gf_RX1_54 C hv6 dX1_completeIfAllArrived_21 ?_
    obtain ⟨v7, hv7, hf⟩ := zbind hf
    refine gf_RX1_140 C hv7 dX1_completeIfAllArrived_24 ?_
    refine z_icmp_lt C 79 dX1_completeIfAllArrived_27 (by decide) (fun q31 => ?_) (fun q31 => ?_)
    · rw [if_pos q31] at hf
      cases hf
      exact hq _ _ dX1_completeIfAllArrived_79
    · rw [if_neg q31] at hf
      refine z_aload_n C dX1_completeIfAllArrived_30 rfl 0 rfl ?_
      obtain ⟨v8, hv8, hf⟩ := zbind hf
      refine gf_RX1_37 C hv8 dX1_completeIfAllArrived_31 ?_
      refine z_iconst C 0 dX1_completeIfAllArrived_34 (by decide) ?_
      refine z_iconst C 4 dX1_completeIfAllArrived_35 (by decide) ?_
      obtain ⟨c9, hc9, hf⟩ := zbind hf
      obtain ⟨kc9, hc9⟩ := zck_ok hc9
      refine z_callVi (As := [.int 0, .int 4]) (F0 := 2) (L0 := 44) C (mX0_arrivedFrom l D Ca B En C.2.2.2.2.2.2.2.1 c5.1 N v8 0 4 _ hc9) hRm kc9 rfl kw_839 kw_10 kw_836 kw_837 kw_838 hyX0_arrivedFrom (Nat.le_of_ble_eq_true rfl) (Nat.le_of_ble_eq_true rfl) rfl rfl (Nat.le_of_ble_eq_true rfl) dX1_completeIfAllArrived_36 ?_
      refine z_aload_n C dX1_completeIfAllArrived_39 rfl 0 rfl ?_
      obtain ⟨v10, hv10, hf⟩ := zbind hf
      refine gf_RX1_54 C hv10 dX1_completeIfAllArrived_40 ?_
      obtain ⟨v11, hv11, hf⟩ := zbind hf
      refine gf_RX1_140 C hv11 dX1_completeIfAllArrived_43 ?_
      refine z_aload_n C dX1_completeIfAllArrived_46 rfl 0 rfl ?_
      obtain ⟨v12, hv12, hf⟩ := zbind hf
      refine gf_RX1_70 C hv12 dX1_completeIfAllArrived_47 ?_
      refine z_imul C dX1_completeIfAllArrived_50 ?_
      refine z_icmp_lt C 79 dX1_completeIfAllArrived_51 (by decide) (fun q30 => ?_) (fun q30 => ?_)
      · rw [if_pos q30] at hf
        cases hf
        exact hq _ _ dX1_completeIfAllArrived_79
      · rw [if_neg q30] at hf
        refine z_aload_n C dX1_completeIfAllArrived_54 rfl 0 rfl ?_
        obtain ⟨v13, hv13, hf⟩ := zbind hf
        refine gf_RX1_37 C hv13 dX1_completeIfAllArrived_55 ?_
        refine z_iconst C 4 dX1_completeIfAllArrived_58 (by decide) ?_
        refine z_bipush C 6 dX1_completeIfAllArrived_59 (by decide) ?_
        obtain ⟨c14, hc14, hf⟩ := zbind hf
        obtain ⟨kc14, hc14⟩ := zck_ok hc14
        refine z_callVi (As := [.int 4, .int 6]) (F0 := 2) (L0 := 44) C (mX0_arrivedFrom l D Ca B En C.2.2.2.2.2.2.2.1 c9.1 N v13 4 6 _ hc14) hRm kc14 rfl kw_839 kw_10 kw_836 kw_837 kw_838 hyX0_arrivedFrom (Nat.le_of_ble_eq_true rfl) (Nat.le_of_ble_eq_true rfl) rfl rfl (Nat.le_of_ble_eq_true rfl) dX1_completeIfAllArrived_61 ?_
        refine z_aload_n C dX1_completeIfAllArrived_64 rfl 0 rfl ?_
        obtain ⟨v15, hv15, hf⟩ := zbind hf
        refine gf_RX1_70 C hv15 dX1_completeIfAllArrived_65 ?_
        refine z_aload_n C dX1_completeIfAllArrived_68 rfl 0 rfl ?_
        obtain ⟨v16, hv16, hf⟩ := zbind hf
        refine gf_RX1_54 C hv16 dX1_completeIfAllArrived_69 ?_
        obtain ⟨v17, hv17, hf⟩ := zbind hf
        refine gf_RX1_161 C hv17 dX1_completeIfAllArrived_72 ?_
        refine z_imul C dX1_completeIfAllArrived_75 ?_
        refine z_icmp_ge C 80 dX1_completeIfAllArrived_76 (by decide) (fun q29 => ?_) (fun q29 => ?_)
        · rw [if_pos q29] at hf
          refine z_aload_n C dX1_completeIfAllArrived_80 rfl 0 rfl ?_
          obtain ⟨v18, hv18, hf⟩ := zbind hf
          refine gf_RX1_37 C hv18 dX1_completeIfAllArrived_81 ?_
          refine z_aload_n C dX1_completeIfAllArrived_84 rfl 0 rfl ?_
          obtain ⟨v19, hv19, hf⟩ := zbind hf
          refine gf_RX1_93 C hv19 dX1_completeIfAllArrived_85 ?_
          obtain ⟨σ20, hσ20, hf⟩ := zbind hf
          refine gp_RX1_277 C hσ20 dX1_completeIfAllArrived_88 ?_
          refine z_aload_n C dX1_completeIfAllArrived_91 rfl 0 rfl ?_
          obtain ⟨v21, hv21, hf⟩ := zbind hf
          refine gf_RX1_41 C hv21 dX1_completeIfAllArrived_92 ?_
          refine z_astore_n (lv2 := [(1, .ref v21), (0, .ref x0)]) C dX1_completeIfAllArrived_95 rfl (by decide) rfl ?_
          refine z_aload_n C dX1_completeIfAllArrived_96 rfl 1 rfl ?_
          refine z_aload_n C dX1_completeIfAllArrived_97 rfl 1 rfl ?_
          obtain ⟨v22, hv22, hf⟩ := zbind hf
          refine gf_RX1_37 C hv22 dX1_completeIfAllArrived_98 ?_
          obtain ⟨σ23, hσ23, hf⟩ := zbind hf
          refine gp_RX1_41 C hσ23 dX1_completeIfAllArrived_101 ?_
          refine z_aload_n C dX1_completeIfAllArrived_104 rfl 1 rfl ?_
          refine z_aload_n C dX1_completeIfAllArrived_105 rfl 0 rfl ?_
          obtain ⟨σ24, hσ24, hf⟩ := zbind hf
          refine gp_RX1_37 C hσ24 dX1_completeIfAllArrived_106 ?_
          refine z_aload_n C dX1_completeIfAllArrived_109 rfl 1 rfl ?_
          obtain ⟨v25, hv25, hf⟩ := zbind hf
          refine gf_RX1_37 C hv25 dX1_completeIfAllArrived_110 ?_
          refine z_iconst C 0 dX1_completeIfAllArrived_113 (by decide) ?_
          obtain ⟨σ26, hσ26, hf⟩ := zbind hf
          refine gp_RX1_110 C hσ26 dX1_completeIfAllArrived_114 ?_
          refine z_aload_n C dX1_completeIfAllArrived_117 rfl 1 rfl ?_
          refine z_dup C dX1_completeIfAllArrived_118 rfl ?_
          obtain ⟨v27, hv27, hf⟩ := zbind hf
          refine gf_RX1_99 C hv27 dX1_completeIfAllArrived_119 ?_
          refine z_iconst C 1 dX1_completeIfAllArrived_122 (by decide) ?_
          refine z_iadd C dX1_completeIfAllArrived_123 ?_
          obtain ⟨σ28, hσ28, hf⟩ := zbind hf
          refine gp_RX1_99 C hσ28 dX1_completeIfAllArrived_124 ?_
          cases hf
          exact hq _ _ dX1_completeIfAllArrived_127
        · rw [if_neg q29] at hf
          cases hf
          exact hq _ _ dX1_completeIfAllArrived_79

theorem mX1_completeIfAllArrived (l : Launch) (D : va_G) (Ca : Nat → ClassId) (B : Nat) (En : State → Prop) (hE : zEk B En) (σ : zS) (N : Nat) (x0 : Nat) (X : zS) (hf : fX1_completeIfAllArrived σ x0 = some X) : zMv l D Ca B En yX1_completeIfAllArrived cX1_completeIfAllArrived 2 (Option.none : Option Jvm.ClassFile.FieldType) 2 44 [.ref x0] σ N X () :=
  zMet_v (own := RX1) hE (by decide +kernel) rfl (Nat.le_of_ble_eq_true rfl) (fun p e s m args below meth c C hr hRm => wfX1_completeIfAllArrived C hRm σ x0 X hf (fun pc lv hd => zfin_v (r := ()) C hr hd))
end ZM
