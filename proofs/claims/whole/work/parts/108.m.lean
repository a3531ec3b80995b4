/-! Methods: X10_atRisk, X10_fullest, X10_feed, X10_truncate, X10_here, X10_fine, X10_needs, X10_isWord, X10_nameHere, X10_placeOf, X10_errorCode, X10_errorOffset, X10_says, X10_outputByte -/
section ZM
variable {p : Program} {l : Launch} {e : Env} {R : Room} {s : State} {m : MethodId} {args : Array Value} {below : List Frame} {meth : Method} {c : Code} {cells slots : Nat} {Q : State → Prop} {D : va_G} {Ca : Nat → ClassId} {B : Nat} {En : State → Prop} {N : Nat}
theorem dX10_atRisk_0 : decode cX10_atRisk 0 = .ok (.aload_n 0, 1) := by decide +kernel
theorem dX10_atRisk_1 : decode cX10_atRisk 1 = .ok (.iconst 0, 1) := by decide +kernel
theorem dX10_atRisk_2 : decode cX10_atRisk 2 = .ok (.putfield 92, 3) := by decide +kernel
theorem dX10_atRisk_5 : decode cX10_atRisk 5 = .ok (.aload_n 0, 1) := by decide +kernel
theorem dX10_atRisk_6 : decode cX10_atRisk 6 = .ok (.invokevirtual 272, 3) := by decide +kernel
theorem dX10_atRisk_9 : decode cX10_atRisk 9 = .ok (.ireturn, 1) := by decide +kernel
theorem hyX10_atRisk : yX10_atRisk.cls ≠ "java/lang/invoke/MethodHandle" ∧ yX10_atRisk.cls ≠ "java/lang/invoke/VarHandle" ∧ (parseMethodDescriptor yX10_atRisk.desc).map (fun d => d.parameters.length) = some 0 := ⟨by decide +kernel, by decide +kernel, by decide +kernel⟩
def fX10_atRisk (σ : zS) (x0 : Nat) : Option (zS × Int32) :=
  (zpI 9 0 σ x0 0).bind fun σ1 => (zck 9 σ1 x0 (fX10_risk σ1 x0 )).bind fun c2 => some (c2.1, c2.2)
set_option maxRecDepth 100000 in
set_option maxHeartbeats 4000000 in
theorem wfX10_atRisk (C : zC p s m args meth c cX10_atRisk RX10 1 D Ca B En) (hRm : zRm R 1 22 cells slots) (σ : zS) (x0 : Nat) (τ : zS) (r : Int32) (hf : fX10_atRisk σ x0 = some (τ, r)) (hq : ∀ (pc : Nat) (lv : List (Nat × Value)), decode cX10_atRisk pc = .ok (.ireturn, 1) → zW p l e R s m args below meth c cells slots Q D Ca B 1 τ N pc lv [.int r]) : zW p l e R s m args below meth c cells slots Q D Ca B 1 σ N 0 [(0, .ref x0)] [] := by
  unfold fX10_atRisk at hf
  refine z_aload_n C dX10_atRisk_0 rfl 0 rfl ?_
  refine z_iconst C 0 dX10_atRisk_1 (by decide) ?_
  obtain ⟨σ1, hσ1, hf⟩ := zbind hf
  refine gp_RX10_92 C hσ1 dX10_atRisk_2 ?_
  refine z_aload_n C dX10_atRisk_5 rfl 0 rfl ?_
  obtain ⟨c2, hc2, hf⟩ := zbind hf
  obtain ⟨kc2, hc2⟩ := zck_ok hc2
  refine z_callVi (As := []) (F0 := 1) (L0 := 22) C (mX10_risk l D Ca B En C.2.2.2.2.2.2.2.1 σ1 N x0  _ hc2) hRm kc2 rfl kw_1591 kw_14 kw_1588 kw_1590 kp_77 hyX10_risk (Nat.le_of_ble_eq_true rfl) (Nat.le_of_ble_eq_true rfl) rfl rfl (Nat.le_of_ble_eq_true rfl) dX10_atRisk_6 ?_
  cases hf
  exact hq _ _ dX10_atRisk_9

theorem mX10_atRisk (l : Launch) (D : va_G) (Ca : Nat → ClassId) (B : Nat) (En : State → Prop) (hE : zEk B En) (σ : zS) (N : Nat) (x0 : Nat) (X : zS × Int32) (hf : fX10_atRisk σ x0 = some X) : zMi l D Ca B En yX10_atRisk cX10_atRisk 1 (Option.some Jvm.ClassFile.FieldType.int) 1 22 [.ref x0] σ N X.1 X.2 :=
  zMet_i (own := RX10) hE (by decide +kernel) rfl (Nat.le_of_ble_eq_true rfl) (fun p e s m args below meth c C hr hRm => wfX10_atRisk C hRm σ x0 X.1 X.2 hf (fun pc lv hd => zfin_i C hr hd))
theorem dX10_fullest_0 : decode cX10_fullest 0 = .ok (.aload_n 0, 1) := by decide +kernel
theorem dX10_fullest_1 : decode cX10_fullest 1 = .ok (.iconst 0, 1) := by decide +kernel
theorem dX10_fullest_2 : decode cX10_fullest 2 = .ok (.putfield 92, 3) := by decide +kernel
theorem dX10_fullest_5 : decode cX10_fullest 5 = .ok (.iconst (-1), 1) := by decide +kernel
theorem dX10_fullest_6 : decode cX10_fullest 6 = .ok (.istore_n 1, 1) := by decide +kernel
theorem dX10_fullest_7 : decode cX10_fullest 7 = .ok (.iconst 0, 1) := by decide +kernel
theorem dX10_fullest_8 : decode cX10_fullest 8 = .ok (.istore_n 2, 1) := by decide +kernel
theorem dX10_fullest_9 : decode cX10_fullest 9 = .ok (.iconst 0, 1) := by decide +kernel
theorem dX10_fullest_10 : decode cX10_fullest 10 = .ok (.istore_n 3, 1) := by decide +kernel
theorem dX10_fullest_11 : decode cX10_fullest 11 = .ok (.iload_n 3, 1) := by decide +kernel
theorem dX10_fullest_12 : decode cX10_fullest 12 = .ok (.aload_n 0, 1) := by decide +kernel
theorem dX10_fullest_13 : decode cX10_fullest 13 = .ok (.getfield 75, 3) := by decide +kernel
theorem dX10_fullest_16 : decode cX10_fullest 16 = .ok (.if_icmp .ge 61, 3) := by decide +kernel
theorem dX10_fullest_19 : decode cX10_fullest 19 = .ok (.iconst 0, 1) := by decide +kernel
theorem dX10_fullest_20 : decode cX10_fullest 20 = .ok (.istore 4, 2) := by decide +kernel
theorem dX10_fullest_22 : decode cX10_fullest 22 = .ok (.iload 4, 2) := by decide +kernel
theorem dX10_fullest_24 : decode cX10_fullest 24 = .ok (.aload_n 0, 1) := by decide +kernel
theorem dX10_fullest_25 : decode cX10_fullest 25 = .ok (.getfield 21, 3) := by decide +kernel
theorem dX10_fullest_28 : decode cX10_fullest 28 = .ok (.iconst 1, 1) := by decide +kernel
theorem dX10_fullest_29 : decode cX10_fullest 29 = .ok (.iaload, 1) := by decide +kernel
theorem dX10_fullest_30 : decode cX10_fullest 30 = .ok (.if_icmp .ge 41, 3) := by decide +kernel
theorem dX10_fullest_33 : decode cX10_fullest 33 = .ok (.aload_n 0, 1) := by decide +kernel
theorem dX10_fullest_34 : decode cX10_fullest 34 = .ok (.iload_n 3, 1) := by decide +kernel
theorem dX10_fullest_35 : decode cX10_fullest 35 = .ok (.iload 4, 2) := by decide +kernel
theorem dX10_fullest_37 : decode cX10_fullest 37 = .ok (.invokestatic 176, 3) := by decide +kernel
theorem dX10_fullest_40 : decode cX10_fullest 40 = .ok (.invokevirtual 119, 3) := by decide +kernel
theorem dX10_fullest_43 : decode cX10_fullest 43 = .ok (.istore 5, 2) := by decide +kernel
theorem dX10_fullest_45 : decode cX10_fullest 45 = .ok (.iload 5, 2) := by decide +kernel
theorem dX10_fullest_47 : decode cX10_fullest 47 = .ok (.iload_n 2, 1) := by decide +kernel
theorem dX10_fullest_48 : decode cX10_fullest 48 = .ok (.if_icmp .gt 6, 3) := by decide +kernel
theorem dX10_fullest_51 : decode cX10_fullest 51 = .ok (.goto 14, 3) := by decide +kernel
theorem dX10_fullest_54 : decode cX10_fullest 54 = .ok (.bipush 10, 2) := by decide +kernel
theorem dX10_fullest_56 : decode cX10_fullest 56 = .ok (.iload_n 3, 1) := by decide +kernel
theorem dX10_fullest_57 : decode cX10_fullest 57 = .ok (.imul, 1) := by decide +kernel
theorem dX10_fullest_58 : decode cX10_fullest 58 = .ok (.iload 4, 2) := by decide +kernel
theorem dX10_fullest_60 : decode cX10_fullest 60 = .ok (.iadd, 1) := by decide +kernel
theorem dX10_fullest_61 : decode cX10_fullest 61 = .ok (.istore_n 1, 1) := by decide +kernel
theorem dX10_fullest_62 : decode cX10_fullest 62 = .ok (.iload 5, 2) := by decide +kernel
theorem dX10_fullest_64 : decode cX10_fullest 64 = .ok (.istore_n 2, 1) := by decide +kernel
theorem dX10_fullest_65 : decode cX10_fullest 65 = .ok (.iinc 4 1, 3) := by decide +kernel
theorem dX10_fullest_68 : decode cX10_fullest 68 = .ok (.goto (-46), 3) := by decide +kernel
theorem dX10_fullest_71 : decode cX10_fullest 71 = .ok (.iinc 3 1, 3) := by decide +kernel
theorem dX10_fullest_74 : decode cX10_fullest 74 = .ok (.goto (-63), 3) := by decide +kernel
theorem dX10_fullest_77 : decode cX10_fullest 77 = .ok (.iload_n 1, 1) := by decide +kernel
theorem dX10_fullest_78 : decode cX10_fullest 78 = .ok (.ireturn, 1) := by decide +kernel
theorem hyX10_fullest : yX10_fullest.cls ≠ "java/lang/invoke/MethodHandle" ∧ yX10_fullest.cls ≠ "java/lang/invoke/VarHandle" ∧ (parseMethodDescriptor yX10_fullest.desc).map (fun d => d.parameters.length) = some 0 := ⟨by decide +kernel, by decide +kernel, by decide +kernel⟩
def jX10_fullest_65_L22 (σ : zS) (x0 : Nat) (x1 : Int32) (x2 : Int32) (x3 : Int32) (x4 : Int32)  : Option ((zS × Int32 × Int32 × Int32) ⊕ (zS × Int32 × Int32)) :=
  some (.inl (σ, x1, x2, x4 + 1))
set_option maxRecDepth 100000 in
set_option maxHeartbeats 4000000 in
theorem wjX10_fullest_65_L22 (C : zC p s m args meth c cX10_fullest RX10 6 D Ca B En) (hRm : zRm R 3 66 cells slots) (σ : zS) (x0 : Nat) (x1 : Int32) (x2 : Int32) (x3 : Int32) (x4 : Int32)  (y : (zS × Int32 × Int32 × Int32) ⊕ (zS × Int32 × Int32)) (hf : jX10_fullest_65_L22 σ x0 x1 x2 x3 x4  = some y) (hk : (∀ z : (zS × Int32 × Int32 × Int32), y = .inl z → zW p l e R s m args below meth c cells slots Q D Ca B 6 z.1 N 22 [(0, .ref x0), (1, .int z.2.1), (2, .int z.2.2.1), (3, .int x3), (4, .int z.2.2.2)] []) ∧ (∀ z : (zS × Int32 × Int32), y = .inr z → zW p l e R s m args below meth c cells slots Q D Ca B 6 z.1 N 71 [(0, .ref x0), (1, .int z.2.1), (2, .int z.2.2), (3, .int x3)] [])) : zW p l e R s m args below meth c cells slots Q D Ca B 6 σ N 65 [(0, .ref x0), (1, .int x1), (2, .int x2), (3, .int x3), (4, .int x4)] [] := by
  unfold jX10_fullest_65_L22 at hf
  refine z_iinc (lv2 := [(4, .int (x4 + 1)), (0, .ref x0), (1, .int x1), (2, .int x2), (3, .int x3)]) C (x4 + 1) dX10_fullest_65 4 rfl rfl (by decide) rfl ?_
  refine z_goto C 22 dX10_fullest_68 (by decide) ?_
  cases hf
  refine z_sub [1, 2, 3, 4, 0] rfl ?_
  exact hk.1 _ rfl

def sX10_fullest_22b (x0 : Nat) (x3 : Int32) (σ : zS) (u1 : Int32) (u2 : Int32) (u4 : Int32) : Option ((zS × Int32 × Int32 × Int32) ⊕ (zS × Int32 × Int32)) :=
  (zgR 9 6 σ x0).bind fun v3 => (zaI σ v3 1).bind fun v4 => (if v4 ≤ u4 then some (.inr (σ, u1, u2)) else (fX10_toInstance σ x3 u4).bind fun c5 => (zck 9 c5.1 x0 (fX10_things c5.1 x0 c5.2)).bind fun c6 => (if u2 < c6.2 then jX10_fullest_65_L22 c6.1 x0 ((10 * x3) + u4) c6.2 x3 u4 else jX10_fullest_65_L22 c6.1 x0 u1 u2 x3 u4))
def sX10_fullest_22 (x0 : Nat) (x3 : Int32) (z : (zS × Int32 × Int32 × Int32)) : Option ((zS × Int32 × Int32 × Int32) ⊕ (zS × Int32 × Int32)) := sX10_fullest_22b x0 x3 z.1 z.2.1 z.2.2.1 z.2.2.2
set_option maxRecDepth 100000 in
set_option maxHeartbeats 4000000 in
theorem wsX10_fullest_22b (C : zC p s m args meth c cX10_fullest RX10 6 D Ca B En) (hRm : zRm R 3 66 cells slots) (x0 : Nat) (x3 : Int32) (σ : zS) (u1 : Int32) (u2 : Int32) (u4 : Int32) (y : (zS × Int32 × Int32 × Int32) ⊕ (zS × Int32 × Int32)) (hf : sX10_fullest_22b x0 x3 σ u1 u2 u4 = some y) (hk : (∀ z : (zS × Int32 × Int32 × Int32), y = .inl z → zW p l e R s m args below meth c cells slots Q D Ca B 6 z.1 N 22 [(0, .ref x0), (1, .int z.2.1), (2, .int z.2.2.1), (3, .int x3), (4, .int z.2.2.2)] []) ∧ (∀ z : (zS × Int32 × Int32), y = .inr z → zW p l e R s m args below meth c cells slots Q D Ca B 6 z.1 N 71 [(0, .ref x0), (1, .int z.2.1), (2, .int z.2.2), (3, .int x3)] [])) : zW p l e R s m args below meth c cells slots Q D Ca B 6 σ N 22 [(0, .ref x0), (1, .int u1), (2, .int u2), (3, .int x3), (4, .int u4)] [] := by
  unfold sX10_fullest_22b at hf
  refine z_iload C dX10_fullest_22 4 rfl ?_
  refine z_aload_n C dX10_fullest_24 rfl 0 rfl ?_
  obtain ⟨v3, hv3, hf⟩ := zbind hf
  refine gf_RX10_21 C hv3 dX10_fullest_25 ?_
  refine z_iconst C 1 dX10_fullest_28 (by decide) ?_
  obtain ⟨v4, hv4, hf⟩ := zbind hf
  refine z_aI C hv4 dX10_fullest_29 ?_
  refine z_icmp_ge C 71 dX10_fullest_30 (by decide) (fun q8 => ?_) (fun q8 => ?_)
  · rw [if_pos q8] at hf
    cases hf
    refine z_sub [0, 1, 2, 3] rfl ?_
    exact hk.2 _ rfl
  · rw [if_neg q8] at hf
    refine z_aload_n C dX10_fullest_33 rfl 0 rfl ?_
    refine z_iload_n C dX10_fullest_34 rfl 3 rfl ?_
    refine z_iload C dX10_fullest_35 4 rfl ?_
    obtain ⟨c5, hc5, hf⟩ := zbind hf
    refine z_callSi (As := [.int x3, .int u4]) (F0 := 3) (L0 := 66) C (mX10_toInstance l D Ca B En C.2.2.2.2.2.2.2.1 σ N x3 u4 _ hc5) hRm kw_1450 kw_14 kw_1448 kw_1449 hyX10_toInstance (Nat.le_of_ble_eq_true rfl) (Nat.le_of_ble_eq_true rfl) rfl rfl (Nat.le_of_ble_eq_true rfl) dX10_fullest_37 ?_
    obtain ⟨c6, hc6, hf⟩ := zbind hf
    obtain ⟨kc6, hc6⟩ := zck_ok hc6
    refine z_callVi (As := [.int c5.2]) (F0 := 3) (L0 := 66) C (mX10_things l D Ca B En C.2.2.2.2.2.2.2.1 c5.1 N x0 c5.2 _ hc6) hRm kc6 rfl kw_1469 kw_14 kw_1466 kw_1468 kp_51 hyX10_things (Nat.le_of_ble_eq_true rfl) (Nat.le_of_ble_eq_true rfl) rfl rfl (Nat.le_of_ble_eq_true rfl) dX10_fullest_40 ?_
    refine z_istore (lv2 := [(5, .int c6.2), (0, .ref x0), (1, .int u1), (2, .int u2), (3, .int x3), (4, .int u4)]) C dX10_fullest_43 (by decide) rfl ?_
    refine z_iload C dX10_fullest_45 0 rfl ?_
    refine z_iload_n C dX10_fullest_47 rfl 3 rfl ?_
    refine z_icmp_gt C 54 dX10_fullest_48 (by decide) (fun q7 => ?_) (fun q7 => ?_)
    · rw [if_pos q7] at hf
      refine z_bipush C 10 dX10_fullest_54 (by decide) ?_
      refine z_iload_n C dX10_fullest_56 rfl 4 rfl ?_
      refine z_imul C dX10_fullest_57 ?_
      refine z_iload C dX10_fullest_58 5 rfl ?_
      refine z_iadd C dX10_fullest_60 ?_
      refine z_istore_n (lv2 := [(1, .int ((10 * x3) + u4)), (5, .int c6.2), (0, .ref x0), (2, .int u2), (3, .int x3), (4, .int u4)]) C dX10_fullest_61 rfl (by decide) rfl ?_
      refine z_iload C dX10_fullest_62 1 rfl ?_
      refine z_istore_n (lv2 := [(2, .int c6.2), (1, .int ((10 * x3) + u4)), (5, .int c6.2), (0, .ref x0), (3, .int x3), (4, .int u4)]) C dX10_fullest_64 rfl (by decide) rfl ?_
      refine z_sub [3, 1, 0, 4, 5] rfl ?_
      exact wjX10_fullest_65_L22 C hRm _ _ _ _ _ _  _ hf hk
    · rw [if_neg q7] at hf
      refine z_goto C 65 dX10_fullest_51 (by decide) ?_
      refine z_sub [1, 2, 3, 4, 5] rfl ?_
      exact wjX10_fullest_65_L22 C hRm _ _ _ _ _ _  _ hf hk

theorem wsX10_fullest_22 (C : zC p s m args meth c cX10_fullest RX10 6 D Ca B En) (hRm : zRm R 3 66 cells slots) (x0 : Nat) (x3 : Int32) (n : Nat) (z : (zS × Int32 × Int32 × Int32)) (x : (zS × Int32 × Int32)) (hf : zloop (sX10_fullest_22 x0 x3) n z = some x) (hk : (∀ o : (zS × Int32 × Int32), x = o → zW p l e R s m args below meth c cells slots Q D Ca B 6 o.1 N 71 [(0, .ref x0), (1, .int o.2.1), (2, .int o.2.2), (3, .int x3)] [])) : zW p l e R s m args below meth c cells slots Q D Ca B 6 z.1 N 22 [(0, .ref x0), (1, .int z.2.1), (2, .int z.2.2.1), (3, .int x3), (4, .int z.2.2.2)] [] := by
  refine zloop_W (P := fun z : (zS × Int32 × Int32 × Int32) => zW p l e R s m args below meth c cells slots Q D Ca B 6 z.1 N 22 [(0, .ref x0), (1, .int z.2.1), (2, .int z.2.2.1), (3, .int x3), (4, .int z.2.2.2)] []) (K := fun x : (zS × Int32 × Int32) => (∀ o : (zS × Int32 × Int32), x = o → zW p l e R s m args below meth c cells slots Q D Ca B 6 o.1 N 71 [(0, .ref x0), (1, .int o.2.1), (2, .int o.2.2), (3, .int x3)] [])) ?_ n z x hf hk
  intro z y hy h1 h2
  refine wsX10_fullest_22b C hRm x0 x3 z.1 z.2.1 z.2.2.1 z.2.2.2 y hy ⟨fun z2 e => h1 z2 e, fun o e => (h2 _ e) o rfl⟩
def sX10_fullest_11b (x0 : Nat) (σ : zS) (u1 : Int32) (u2 : Int32) (u3 : Int32) : Option ((zS × Int32 × Int32 × Int32) ⊕ (zS × Int32)) :=
  (zgI 9 1 σ x0).bind fun v2 => (if v2 ≤ u3 then some (.inr (σ, u1)) else (zloop (sX10_fullest_22 x0 u3) zfuel (σ, u1, u2, 0)).bind fun o9 => some (.inl (o9.1, o9.2.1, o9.2.2, u3 + 1)))
def sX10_fullest_11 (x0 : Nat) (z : (zS × Int32 × Int32 × Int32)) : Option ((zS × Int32 × Int32 × Int32) ⊕ (zS × Int32)) := sX10_fullest_11b x0 z.1 z.2.1 z.2.2.1 z.2.2.2
set_option maxRecDepth 100000 in
set_option maxHeartbeats 4000000 in
theorem wsX10_fullest_11b (C : zC p s m args meth c cX10_fullest RX10 6 D Ca B En) (hRm : zRm R 3 66 cells slots) (x0 : Nat) (σ : zS) (u1 : Int32) (u2 : Int32) (u3 : Int32) (y : (zS × Int32 × Int32 × Int32) ⊕ (zS × Int32)) (hf : sX10_fullest_11b x0 σ u1 u2 u3 = some y) (hk : (∀ z : (zS × Int32 × Int32 × Int32), y = .inl z → zW p l e R s m args below meth c cells slots Q D Ca B 6 z.1 N 11 [(0, .ref x0), (1, .int z.2.1), (2, .int z.2.2.1), (3, .int z.2.2.2)] []) ∧ (∀ z : (zS × Int32), y = .inr z → zW p l e R s m args below meth c cells slots Q D Ca B 6 z.1 N 77 [(1, .int z.2)] [])) : zW p l e R s m args below meth c cells slots Q D Ca B 6 σ N 11 [(0, .ref x0), (1, .int u1), (2, .int u2), (3, .int u3)] [] := by
  unfold sX10_fullest_11b at hf
  refine z_iload_n C dX10_fullest_11 rfl 3 rfl ?_
  refine z_aload_n C dX10_fullest_12 rfl 0 rfl ?_
  obtain ⟨v2, hv2, hf⟩ := zbind hf
  refine gf_RX10_75 C hv2 dX10_fullest_13 ?_
  refine z_icmp_ge C 77 dX10_fullest_16 (by decide) (fun q10 => ?_) (fun q10 => ?_)
  · rw [if_pos q10] at hf
    cases hf
    refine z_sub [1] rfl ?_
    exact hk.2 _ rfl
  · rw [if_neg q10] at hf
    refine z_iconst C 0 dX10_fullest_19 (by decide) ?_
    refine z_istore (lv2 := [(4, .int 0), (0, .ref x0), (1, .int u1), (2, .int u2), (3, .int u3)]) C dX10_fullest_20 (by decide) rfl ?_
    obtain ⟨o9, ho9, hf⟩ := zbind hf
    refine z_sub [1, 2, 3, 4, 0] rfl ?_
    refine wsX10_fullest_22 C hRm _ _ zfuel (σ, u1, u2, 0) o9 ho9 ?_
    intro z9 e9
    subst e9
    refine z_iinc (lv2 := [(3, .int (u3 + 1)), (0, .ref x0), (1, .int o9.2.1), (2, .int o9.2.2)]) C (u3 + 1) dX10_fullest_71 3 rfl rfl (by decide) rfl ?_
    refine z_goto C 11 dX10_fullest_74 (by decide) ?_
    cases hf
    refine z_sub [1, 2, 3, 0] rfl ?_
    exact hk.1 _ rfl

theorem wsX10_fullest_11 (C : zC p s m args meth c cX10_fullest RX10 6 D Ca B En) (hRm : zRm R 3 66 cells slots) (x0 : Nat) (n : Nat) (z : (zS × Int32 × Int32 × Int32)) (x : (zS × Int32)) (hf : zloop (sX10_fullest_11 x0) n z = some x) (hk : (∀ o : (zS × Int32), x = o → zW p l e R s m args below meth c cells slots Q D Ca B 6 o.1 N 77 [(1, .int o.2)] [])) : zW p l e R s m args below meth c cells slots Q D Ca B 6 z.1 N 11 [(0, .ref x0), (1, .int z.2.1), (2, .int z.2.2.1), (3, .int z.2.2.2)] [] := by
  refine zloop_W (P := fun z : (zS × Int32 × Int32 × Int32) => zW p l e R s m args below meth c cells slots Q D Ca B 6 z.1 N 11 [(0, .ref x0), (1, .int z.2.1), (2, .int z.2.2.1), (3, .int z.2.2.2)] []) (K := fun x : (zS × Int32) => (∀ o : (zS × Int32), x = o → zW p l e R s m args below meth c cells slots Q D Ca B 6 o.1 N 77 [(1, .int o.2)] [])) ?_ n z x hf hk
  intro z y hy h1 h2
  refine wsX10_fullest_11b C hRm x0 z.1 z.2.1 z.2.2.1 z.2.2.2 y hy ⟨fun z2 e => h1 z2 e, fun o e => (h2 _ e) o rfl⟩
def fX10_fullest (σ : zS) (x0 : Nat) : Option (zS × Int32) :=
  (zpI 9 0 σ x0 0).bind fun σ1 => (zloop (sX10_fullest_11 x0) zfuel (σ1, (-1), 0, 0)).bind fun o11 => some (o11.1, o11.2)
set_option maxRecDepth 100000 in
set_option maxHeartbeats 4000000 in
theorem wfX10_fullest (C : zC p s m args meth c cX10_fullest RX10 6 D Ca B En) (hRm : zRm R 3 66 cells slots) (σ : zS) (x0 : Nat) (τ : zS) (r : Int32) (hf : fX10_fullest σ x0 = some (τ, r)) (hq : ∀ (pc : Nat) (lv : List (Nat × Value)), decode cX10_fullest pc = .ok (.ireturn, 1) → zW p l e R s m args below meth c cells slots Q D Ca B 6 τ N pc lv [.int r]) : zW p l e R s m args below meth c cells slots Q D Ca B 6 σ N 0 [(0, .ref x0)] [] := by
  unfold fX10_fullest at hf
  refine z_aload_n C dX10_fullest_0 rfl 0 rfl ?_
  refine z_iconst C 0 dX10_fullest_1 (by decide) ?_
  obtain ⟨σ1, hσ1, hf⟩ := zbind hf
  refine gp_RX10_92 C hσ1 dX10_fullest_2 ?_
  refine z_iconst C (-1) dX10_fullest_5 (by decide) ?_
  refine z_istore_n (lv2 := [(1, .int ((-1))), (0, .ref x0)]) C dX10_fullest_6 rfl (by decide) rfl ?_
  refine z_iconst C 0 dX10_fullest_7 (by decide) ?_
  refine z_istore_n (lv2 := [(2, .int 0), (1, .int ((-1))), (0, .ref x0)]) C dX10_fullest_8 rfl (by decide) rfl ?_
  refine z_iconst C 0 dX10_fullest_9 (by decide) ?_
  refine z_istore_n (lv2 := [(3, .int 0), (2, .int 0), (1, .int ((-1))), (0, .ref x0)]) C dX10_fullest_10 rfl (by decide) rfl ?_
  obtain ⟨o11, ho11, hf⟩ := zbind hf
  refine z_sub [3, 2, 1, 0] rfl ?_
  refine wsX10_fullest_11 C hRm _ zfuel (σ1, (-1), 0, 0) o11 ho11 ?_
  intro z9 e9
  subst e9
  refine z_iload_n C dX10_fullest_77 rfl 0 rfl ?_
  cases hf
  exact hq _ _ dX10_fullest_78

theorem mX10_fullest (l : Launch) (D : va_G) (Ca : Nat → ClassId) (B : Nat) (En : State → Prop) (hE : zEk B En) (σ : zS) (N : Nat) (x0 : Nat) (X : zS × Int32) (hf : fX10_fullest σ x0 = some X) : zMi l D Ca B En yX10_fullest cX10_fullest 6 (Option.some Jvm.ClassFile.FieldType.int) 3 66 [.ref x0] σ N X.1 X.2 :=
  zMet_i (own := RX10) hE (by decide +kernel) rfl (Nat.le_of_ble_eq_true rfl) (fun p e s m args below meth c C hr hRm => wfX10_fullest C hRm σ x0 X.1 X.2 hf (fun pc lv hd => zfin_i C hr hd))
theorem dX10_feed_0 : decode cX10_feed 0 = .ok (.aload_n 0, 1) := by decide +kernel
theorem dX10_feed_1 : decode cX10_feed 1 = .ok (.iconst 0, 1) := by decide +kernel
theorem dX10_feed_2 : decode cX10_feed 2 = .ok (.putfield 92, 3) := by decide +kernel
theorem dX10_feed_5 : decode cX10_feed 5 = .ok (.aload_n 0, 1) := by decide +kernel
theorem dX10_feed_6 : decode cX10_feed 6 = .ok (.getfield 357, 3) := by decide +kernel
theorem dX10_feed_9 : decode cX10_feed 9 = .ok (.bipush 20, 2) := by decide +kernel
theorem dX10_feed_11 : decode cX10_feed 11 = .ok (.iadd, 1) := by decide +kernel
theorem dX10_feed_12 : decode cX10_feed 12 = .ok (.sipush 300, 3) := by decide +kernel
theorem dX10_feed_15 : decode cX10_feed 15 = .ok (.if_icmp .le 5, 3) := by decide +kernel
theorem dX10_feed_18 : decode cX10_feed 18 = .ok (.iconst (-1), 1) := by decide +kernel
theorem dX10_feed_19 : decode cX10_feed 19 = .ok (.ireturn, 1) := by decide +kernel
theorem dX10_feed_20 : decode cX10_feed 20 = .ok (.iconst 0, 1) := by decide +kernel
theorem dX10_feed_21 : decode cX10_feed 21 = .ok (.istore 6, 2) := by decide +kernel
theorem dX10_feed_23 : decode cX10_feed 23 = .ok (.iload 6, 2) := by decide +kernel
theorem dX10_feed_25 : decode cX10_feed 25 = .ok (.bipush 20, 2) := by decide +kernel
theorem dX10_feed_27 : decode cX10_feed 27 = .ok (.if_icmp .ge 90, 3) := by decide +kernel
theorem dX10_feed_30 : decode cX10_feed 30 = .ok (.iload 6, 2) := by decide +kernel
theorem dX10_feed_32 : decode cX10_feed 32 = .ok (.iconst 4, 1) := by decide +kernel
theorem dX10_feed_33 : decode cX10_feed 33 = .ok (.if_icmp .ge 7, 3) := by decide +kernel
theorem dX10_feed_36 : decode cX10_feed 36 = .ok (.iload_n 1, 1) := by decide +kernel
theorem dX10_feed_37 : decode cX10_feed 37 = .ok (.goto 39, 3) := by decide +kernel
theorem dX10_feed_40 : decode cX10_feed 40 = .ok (.iload 6, 2) := by decide +kernel
theorem dX10_feed_42 : decode cX10_feed 42 = .ok (.bipush 8, 2) := by decide +kernel
theorem dX10_feed_44 : decode cX10_feed 44 = .ok (.if_icmp .ge 7, 3) := by decide +kernel
theorem dX10_feed_47 : decode cX10_feed 47 = .ok (.iload_n 2, 1) := by decide +kernel
theorem dX10_feed_48 : decode cX10_feed 48 = .ok (.goto 28, 3) := by decide +kernel
theorem dX10_feed_51 : decode cX10_feed 51 = .ok (.iload 6, 2) := by decide +kernel
theorem dX10_feed_53 : decode cX10_feed 53 = .ok (.bipush 12, 2) := by decide +kernel
theorem dX10_feed_55 : decode cX10_feed 55 = .ok (.if_icmp .ge 7, 3) := by decide +kernel
theorem dX10_feed_58 : decode cX10_feed 58 = .ok (.iload_n 3, 1) := by decide +kernel
theorem dX10_feed_59 : decode cX10_feed 59 = .ok (.goto 17, 3) := by decide +kernel
theorem dX10_feed_62 : decode cX10_feed 62 = .ok (.iload 6, 2) := by decide +kernel
theorem dX10_feed_64 : decode cX10_feed 64 = .ok (.bipush 16, 2) := by decide +kernel
theorem dX10_feed_66 : decode cX10_feed 66 = .ok (.if_icmp .ge 8, 3) := by decide +kernel
theorem dX10_feed_69 : decode cX10_feed 69 = .ok (.iload 4, 2) := by decide +kernel
theorem dX10_feed_71 : decode cX10_feed 71 = .ok (.goto 5, 3) := by decide +kernel
theorem dX10_feed_74 : decode cX10_feed 74 = .ok (.iload 5, 2) := by decide +kernel
theorem dX10_feed_76 : decode cX10_feed 76 = .ok (.istore 7, 2) := by decide +kernel
theorem dX10_feed_78 : decode cX10_feed 78 = .ok (.aload_n 0, 1) := by decide +kernel
theorem dX10_feed_79 : decode cX10_feed 79 = .ok (.getfield 40, 3) := by decide +kernel
theorem dX10_feed_82 : decode cX10_feed 82 = .ok (.aload_n 0, 1) := by decide +kernel
theorem dX10_feed_83 : decode cX10_feed 83 = .ok (.getfield 357, 3) := by decide +kernel
theorem dX10_feed_86 : decode cX10_feed 86 = .ok (.iload 7, 2) := by decide +kernel
theorem dX10_feed_88 : decode cX10_feed 88 = .ok (.bipush 24, 2) := by decide +kernel
theorem dX10_feed_90 : decode cX10_feed 90 = .ok (.bipush 8, 2) := by decide +kernel
theorem dX10_feed_92 : decode cX10_feed 92 = .ok (.iload 6, 2) := by decide +kernel
theorem dX10_feed_94 : decode cX10_feed 94 = .ok (.iconst 4, 1) := by decide +kernel
theorem dX10_feed_95 : decode cX10_feed 95 = .ok (.irem, 1) := by decide +kernel
theorem dX10_feed_96 : decode cX10_feed 96 = .ok (.imul, 1) := by decide +kernel
theorem dX10_feed_97 : decode cX10_feed 97 = .ok (.isub, 1) := by decide +kernel
theorem dX10_feed_98 : decode cX10_feed 98 = .ok (.ishr, 1) := by decide +kernel
theorem dX10_feed_99 : decode cX10_feed 99 = .ok (.i2b, 1) := by decide +kernel
theorem dX10_feed_100 : decode cX10_feed 100 = .ok (.bastore, 1) := by decide +kernel
theorem dX10_feed_101 : decode cX10_feed 101 = .ok (.aload_n 0, 1) := by decide +kernel
theorem dX10_feed_102 : decode cX10_feed 102 = .ok (.aload_n 0, 1) := by decide +kernel
theorem dX10_feed_103 : decode cX10_feed 103 = .ok (.getfield 357, 3) := by decide +kernel
theorem dX10_feed_106 : decode cX10_feed 106 = .ok (.iconst 1, 1) := by decide +kernel
theorem dX10_feed_107 : decode cX10_feed 107 = .ok (.iadd, 1) := by decide +kernel
theorem dX10_feed_108 : decode cX10_feed 108 = .ok (.putfield 357, 3) := by decide +kernel
theorem dX10_feed_111 : decode cX10_feed 111 = .ok (.iinc 6 1, 3) := by decide +kernel
theorem dX10_feed_114 : decode cX10_feed 114 = .ok (.goto (-91), 3) := by decide +kernel
theorem dX10_feed_117 : decode cX10_feed 117 = .ok (.aload_n 0, 1) := by decide +kernel
theorem dX10_feed_118 : decode cX10_feed 118 = .ok (.getfield 357, 3) := by decide +kernel
theorem dX10_feed_121 : decode cX10_feed 121 = .ok (.ireturn, 1) := by decide +kernel
theorem hyX10_feed : yX10_feed.cls ≠ "java/lang/invoke/MethodHandle" ∧ yX10_feed.cls ≠ "java/lang/invoke/VarHandle" ∧ (parseMethodDescriptor yX10_feed.desc).map (fun d => d.parameters.length) = some 5 := ⟨by decide +kernel, by decide +kernel, by decide +kernel⟩
def jX10_feed_76_L23 (σ : zS) (x0 : Nat) (x1 : Int32) (x2 : Int32) (x3 : Int32) (x4 : Int32) (x5 : Int32) (x6 : Int32) (y0 : Int32) : Option ((zS × Int32) ⊕ zS) :=
  (zgR 9 14 σ x0).bind fun v3 => (zgI 9 15 σ x0).bind fun v4 => (zsB σ v3 v4 ((y0 >>> ((24 - (8 * (x6 - x6 / 4 * 4))) &&& 31) : Int32).toInt8.toInt32)).bind fun σ5 => (zgI 9 15 σ5 x0).bind fun v6 => (zpI 9 15 σ5 x0 (v6 + 1)).bind fun σ7 => some (.inl (σ7, x6 + 1))
set_option maxRecDepth 100000 in
set_option maxHeartbeats 4000000 in
theorem wjX10_feed_76_L23 (C : zC p s m args meth c cX10_feed RX10 8 D Ca B En) (hRm : zRm R 0 0 cells slots) (σ : zS) (x0 : Nat) (x1 : Int32) (x2 : Int32) (x3 : Int32) (x4 : Int32) (x5 : Int32) (x6 : Int32) (y0 : Int32) (y : (zS × Int32) ⊕ zS) (hf : jX10_feed_76_L23 σ x0 x1 x2 x3 x4 x5 x6 y0 = some y) (hk : (∀ z : (zS × Int32), y = .inl z → zW p l e R s m args below meth c cells slots Q D Ca B 8 z.1 N 23 [(0, .ref x0), (1, .int x1), (2, .int x2), (3, .int x3), (4, .int x4), (5, .int x5), (6, .int z.2)] []) ∧ (∀ z : zS, y = .inr z → zW p l e R s m args below meth c cells slots Q D Ca B 8 z N 117 [(0, .ref x0)] [])) : zW p l e R s m args below meth c cells slots Q D Ca B 8 σ N 76 [(0, .ref x0), (1, .int x1), (2, .int x2), (3, .int x3), (4, .int x4), (5, .int x5), (6, .int x6)] [.int y0] := by
  unfold jX10_feed_76_L23 at hf
  refine z_istore (lv2 := [(7, .int y0), (0, .ref x0), (1, .int x1), (2, .int x2), (3, .int x3), (4, .int x4), (5, .int x5), (6, .int x6)]) C dX10_feed_76 (by decide) rfl ?_
  refine z_aload_n C dX10_feed_78 rfl 1 rfl ?_
  obtain ⟨v3, hv3, hf⟩ := zbind hf
  refine gf_RX10_40 C hv3 dX10_feed_79 ?_
  refine z_aload_n C dX10_feed_82 rfl 1 rfl ?_
  obtain ⟨v4, hv4, hf⟩ := zbind hf
  refine gf_RX10_357 C hv4 dX10_feed_83 ?_
  refine z_iload C dX10_feed_86 0 rfl ?_
  refine z_bipush C 24 dX10_feed_88 (by decide) ?_
  refine z_bipush C 8 dX10_feed_90 (by decide) ?_
  refine z_iload C dX10_feed_92 7 rfl ?_
  refine z_iconst C 4 dX10_feed_94 (by decide) ?_
  refine z_irem C dX10_feed_95 (by decide) ?_
  refine z_imul C dX10_feed_96 ?_
  refine z_isub C dX10_feed_97 ?_
  refine z_ishr C dX10_feed_98 ?_
  refine z_i2b C dX10_feed_99 ?_
  obtain ⟨σ5, hσ5, hf⟩ := zbind hf
  refine z_sB C hσ5 dX10_feed_100 ?_
  refine z_aload_n C dX10_feed_101 rfl 1 rfl ?_
  refine z_aload_n C dX10_feed_102 rfl 1 rfl ?_
  obtain ⟨v6, hv6, hf⟩ := zbind hf
  refine gf_RX10_357 C hv6 dX10_feed_103 ?_
  refine z_iconst C 1 dX10_feed_106 (by decide) ?_
  refine z_iadd C dX10_feed_107 ?_
  obtain ⟨σ7, hσ7, hf⟩ := zbind hf
  refine gp_RX10_357 C hσ7 dX10_feed_108 ?_
  refine z_iinc (lv2 := [(6, .int (x6 + 1)), (7, .int y0), (0, .ref x0), (1, .int x1), (2, .int x2), (3, .int x3), (4, .int x4), (5, .int x5)]) C (x6 + 1) dX10_feed_111 7 rfl rfl (by decide) rfl ?_
  refine z_goto C 23 dX10_feed_114 (by decide) ?_
  cases hf
  refine z_sub [2, 3, 4, 5, 6, 7, 0] rfl ?_
  exact hk.1 _ rfl

def sX10_feed_23b (x0 : Nat) (x1 : Int32) (x2 : Int32) (x3 : Int32) (x4 : Int32) (x5 : Int32) (σ : zS) (u6 : Int32) : Option ((zS × Int32) ⊕ zS) :=
  (if 20 ≤ u6 then some (.inr σ) else (if 4 ≤ u6 then (if 8 ≤ u6 then (if 12 ≤ u6 then (if 16 ≤ u6 then jX10_feed_76_L23 σ x0 x1 x2 x3 x4 x5 u6 x5 else jX10_feed_76_L23 σ x0 x1 x2 x3 x4 x5 u6 x4) else jX10_feed_76_L23 σ x0 x1 x2 x3 x4 x5 u6 x3) else jX10_feed_76_L23 σ x0 x1 x2 x3 x4 x5 u6 x2) else jX10_feed_76_L23 σ x0 x1 x2 x3 x4 x5 u6 x1))
def sX10_feed_23 (x0 : Nat) (x1 : Int32) (x2 : Int32) (x3 : Int32) (x4 : Int32) (x5 : Int32) (z : (zS × Int32)) : Option ((zS × Int32) ⊕ zS) := sX10_feed_23b x0 x1 x2 x3 x4 x5 z.1 z.2
set_option maxRecDepth 100000 in
set_option maxHeartbeats 4000000 in
theorem wsX10_feed_23b (C : zC p s m args meth c cX10_feed RX10 8 D Ca B En) (hRm : zRm R 0 0 cells slots) (x0 : Nat) (x1 : Int32) (x2 : Int32) (x3 : Int32) (x4 : Int32) (x5 : Int32) (σ : zS) (u6 : Int32) (y : (zS × Int32) ⊕ zS) (hf : sX10_feed_23b x0 x1 x2 x3 x4 x5 σ u6 = some y) (hk : (∀ z : (zS × Int32), y = .inl z → zW p l e R s m args below meth c cells slots Q D Ca B 8 z.1 N 23 [(0, .ref x0), (1, .int x1), (2, .int x2), (3, .int x3), (4, .int x4), (5, .int x5), (6, .int z.2)] []) ∧ (∀ z : zS, y = .inr z → zW p l e R s m args below meth c cells slots Q D Ca B 8 z N 117 [(0, .ref x0)] [])) : zW p l e R s m args below meth c cells slots Q D Ca B 8 σ N 23 [(0, .ref x0), (1, .int x1), (2, .int x2), (3, .int x3), (4, .int x4), (5, .int x5), (6, .int u6)] [] := by
  unfold sX10_feed_23b at hf
  refine z_iload C dX10_feed_23 6 rfl ?_
  refine z_bipush C 20 dX10_feed_25 (by decide) ?_
  refine z_icmp_ge C 117 dX10_feed_27 (by decide) (fun q12 => ?_) (fun q12 => ?_)
  · rw [if_pos q12] at hf
    cases hf
    refine z_sub [0] rfl ?_
    exact hk.2 _ rfl
  · rw [if_neg q12] at hf
    refine z_iload C dX10_feed_30 6 rfl ?_
    refine z_iconst C 4 dX10_feed_32 (by decide) ?_
    refine z_icmp_ge C 40 dX10_feed_33 (by decide) (fun q11 => ?_) (fun q11 => ?_)
    · rw [if_pos q11] at hf
      refine z_iload C dX10_feed_40 6 rfl ?_
      refine z_bipush C 8 dX10_feed_42 (by decide) ?_
      refine z_icmp_ge C 51 dX10_feed_44 (by decide) (fun q10 => ?_) (fun q10 => ?_)
      · rw [if_pos q10] at hf
        refine z_iload C dX10_feed_51 6 rfl ?_
        refine z_bipush C 12 dX10_feed_53 (by decide) ?_
        refine z_icmp_ge C 62 dX10_feed_55 (by decide) (fun q9 => ?_) (fun q9 => ?_)
        · rw [if_pos q9] at hf
          refine z_iload C dX10_feed_62 6 rfl ?_
          refine z_bipush C 16 dX10_feed_64 (by decide) ?_
          refine z_icmp_ge C 74 dX10_feed_66 (by decide) (fun q8 => ?_) (fun q8 => ?_)
          · rw [if_pos q8] at hf
            refine z_iload C dX10_feed_74 5 rfl ?_
            refine z_sub [0, 1, 2, 3, 4, 5, 6] rfl ?_
            exact wjX10_feed_76_L23 C hRm _ _ _ _ _ _ _ _ _ _ hf hk
          · rw [if_neg q8] at hf
            refine z_iload C dX10_feed_69 4 rfl ?_
            refine z_goto C 76 dX10_feed_71 (by decide) ?_
            refine z_sub [0, 1, 2, 3, 4, 5, 6] rfl ?_
            exact wjX10_feed_76_L23 C hRm _ _ _ _ _ _ _ _ _ _ hf hk
        · rw [if_neg q9] at hf
          refine z_iload_n C dX10_feed_58 rfl 3 rfl ?_
          refine z_goto C 76 dX10_feed_59 (by decide) ?_
          refine z_sub [0, 1, 2, 3, 4, 5, 6] rfl ?_
          exact wjX10_feed_76_L23 C hRm _ _ _ _ _ _ _ _ _ _ hf hk
      · rw [if_neg q10] at hf
        refine z_iload_n C dX10_feed_47 rfl 2 rfl ?_
        refine z_goto C 76 dX10_feed_48 (by decide) ?_
        refine z_sub [0, 1, 2, 3, 4, 5, 6] rfl ?_
        exact wjX10_feed_76_L23 C hRm _ _ _ _ _ _ _ _ _ _ hf hk
    · rw [if_neg q11] at hf
      refine z_iload_n C dX10_feed_36 rfl 1 rfl ?_
      refine z_goto C 76 dX10_feed_37 (by decide) ?_
      refine z_sub [0, 1, 2, 3, 4, 5, 6] rfl ?_
      exact wjX10_feed_76_L23 C hRm _ _ _ _ _ _ _ _ _ _ hf hk

theorem wsX10_feed_23 (C : zC p s m args meth c cX10_feed RX10 8 D Ca B En) (hRm : zRm R 0 0 cells slots) (x0 : Nat) (x1 : Int32) (x2 : Int32) (x3 : Int32) (x4 : Int32) (x5 : Int32) (n : Nat) (z : (zS × Int32)) (x : zS) (hf : zloop (sX10_feed_23 x0 x1 x2 x3 x4 x5) n z = some x) (hk : (∀ o : zS, x = o → zW p l e R s m args below meth c cells slots Q D Ca B 8 o N 117 [(0, .ref x0)] [])) : zW p l e R s m args below meth c cells slots Q D Ca B 8 z.1 N 23 [(0, .ref x0), (1, .int x1), (2, .int x2), (3, .int x3), (4, .int x4), (5, .int x5), (6, .int z.2)] [] := by
  refine zloop_W (P := fun z : (zS × Int32) => zW p l e R s m args below meth c cells slots Q D Ca B 8 z.1 N 23 [(0, .ref x0), (1, .int x1), (2, .int x2), (3, .int x3), (4, .int x4), (5, .int x5), (6, .int z.2)] []) (K := fun x : zS => (∀ o : zS, x = o → zW p l e R s m args below meth c cells slots Q D Ca B 8 o N 117 [(0, .ref x0)] [])) ?_ n z x hf hk
  intro z y hy h1 h2
  refine wsX10_feed_23b C hRm x0 x1 x2 x3 x4 x5 z.1 z.2 y hy ⟨fun z2 e => h1 z2 e, fun o e => (h2 _ e) o rfl⟩
def fX10_feed (σ : zS) (x0 : Nat) (x1 : Int32) (x2 : Int32) (x3 : Int32) (x4 : Int32) (x5 : Int32) : Option (zS × Int32) :=
  (zpI 9 0 σ x0 0).bind fun σ1 => (zgI 9 15 σ1 x0).bind fun v2 => (if (v2 + 20) ≤ 300 then (zloop (sX10_feed_23 x0 x1 x2 x3 x4 x5) zfuel (σ1, 0)).bind fun o13 => (zgI 9 15 o13 x0).bind fun v14 => some (o13, v14) else some (σ1, (-1)))
set_option maxRecDepth 100000 in
set_option maxHeartbeats 4000000 in
theorem wfX10_feed (C : zC p s m args meth c cX10_feed RX10 8 D Ca B En) (hRm : zRm R 0 0 cells slots) (σ : zS) (x0 : Nat) (x1 : Int32) (x2 : Int32) (x3 : Int32) (x4 : Int32) (x5 : Int32) (τ : zS) (r : Int32) (hf : fX10_feed σ x0 x1 x2 x3 x4 x5 = some (τ, r)) (hq : ∀ (pc : Nat) (lv : List (Nat × Value)), decode cX10_feed pc = .ok (.ireturn, 1) → zW p l e R s m args below meth c cells slots Q D Ca B 8 τ N pc lv [.int r]) : zW p l e R s m args below meth c cells slots Q D Ca B 8 σ N 0 [(0, .ref x0), (1, .int x1), (2, .int x2), (3, .int x3), (4, .int x4), (5, .int x5)] [] := by
  unfold fX10_feed at hf
  refine z_aload_n C dX10_feed_0 rfl 0 rfl ?_
  refine z_iconst C 0 dX10_feed_1 (by decide) ?_
  obtain ⟨σ1, hσ1, hf⟩ := zbind hf
  refine gp_RX10_92 C hσ1 dX10_feed_2 ?_
  refine z_aload_n C dX10_feed_5 rfl 0 rfl ?_
  obtain ⟨v2, hv2, hf⟩ := zbind hf
  refine gf_RX10_357 C hv2 dX10_feed_6 ?_
  refine z_bipush C 20 dX10_feed_9 (by decide) ?_
  refine z_iadd C dX10_feed_11 ?_
  refine z_sipush C 300 dX10_feed_12 (by decide) ?_
  refine z_icmp_le C 20 dX10_feed_15 (by decide) (fun q15 => ?_) (fun q15 => ?_)
  · rw [if_pos q15] at hf
    refine z_iconst C 0 dX10_feed_20 (by decide) ?_
    refine z_istore (lv2 := [(6, .int 0), (0, .ref x0), (1, .int x1), (2, .int x2), (3, .int x3), (4, .int x4), (5, .int x5)]) C dX10_feed_21 (by decide) rfl ?_
    obtain ⟨o13, ho13, hf⟩ := zbind hf
    refine z_sub [1, 2, 3, 4, 5, 6, 0] rfl ?_
    refine wsX10_feed_23 C hRm _ _ _ _ _ _ zfuel (σ1, 0) o13 ho13 ?_
    intro z9 e9
    subst e9
    refine z_aload_n C dX10_feed_117 rfl 0 rfl ?_
    obtain ⟨v14, hv14, hf⟩ := zbind hf
    refine gf_RX10_357 C hv14 dX10_feed_118 ?_
    cases hf
    exact hq _ _ dX10_feed_121
  · rw [if_neg q15] at hf
    refine z_iconst C (-1) dX10_feed_18 (by decide) ?_
    cases hf
    exact hq _ _ dX10_feed_19

theorem mX10_feed (l : Launch) (D : va_G) (Ca : Nat → ClassId) (B : Nat) (En : State → Prop) (hE : zEk B En) (σ : zS) (N : Nat) (x0 : Nat) (x1 : Int32) (x2 : Int32) (x3 : Int32) (x4 : Int32) (x5 : Int32) (X : zS × Int32) (hf : fX10_feed σ x0 x1 x2 x3 x4 x5 = some X) : zMi l D Ca B En yX10_feed cX10_feed 8 (Option.some Jvm.ClassFile.FieldType.int) 0 0 [.ref x0, .int x1, .int x2, .int x3, .int x4, .int x5] σ N X.1 X.2 :=
  zMet_i (own := RX10) hE (by decide +kernel) rfl (Nat.le_of_ble_eq_true rfl) (fun p e s m args below meth c C hr hRm => wfX10_feed C hRm σ x0 x1 x2 x3 x4 x5 X.1 X.2 hf (fun pc lv hd => zfin_i C hr hd))
theorem dX10_truncate_0 : decode cX10_truncate 0 = .ok (.aload_n 0, 1) := by decide +kernel
theorem dX10_truncate_1 : decode cX10_truncate 1 = .ok (.iconst 0, 1) := by decide +kernel
theorem dX10_truncate_2 : decode cX10_truncate 2 = .ok (.putfield 92, 3) := by decide +kernel
theorem dX10_truncate_5 : decode cX10_truncate 5 = .ok (.iload_n 1, 1) := by decide +kernel
theorem dX10_truncate_6 : decode cX10_truncate 6 = .ok (.i2l, 1) := by decide +kernel
theorem dX10_truncate_7 : decode cX10_truncate 7 = .ok (.lconst 0, 1) := by decide +kernel
theorem dX10_truncate_8 : decode cX10_truncate 8 = .ok (.aload_n 0, 1) := by decide +kernel
theorem dX10_truncate_9 : decode cX10_truncate 9 = .ok (.getfield 357, 3) := by decide +kernel
theorem dX10_truncate_12 : decode cX10_truncate 12 = .ok (.i2l, 1) := by decide +kernel
theorem dX10_truncate_13 : decode cX10_truncate 13 = .ok (.invokestatic 247, 3) := by decide +kernel
theorem dX10_truncate_16 : decode cX10_truncate 16 = .ok (.ifCond .ne 5, 3) := by decide +kernel
theorem dX10_truncate_19 : decode cX10_truncate 19 = .ok (.iconst 0, 1) := by decide +kernel
theorem dX10_truncate_20 : decode cX10_truncate 20 = .ok (.ireturn, 1) := by decide +kernel
theorem dX10_truncate_21 : decode cX10_truncate 21 = .ok (.aload_n 0, 1) := by decide +kernel
theorem dX10_truncate_22 : decode cX10_truncate 22 = .ok (.iload_n 1, 1) := by decide +kernel
theorem dX10_truncate_23 : decode cX10_truncate 23 = .ok (.putfield 357, 3) := by decide +kernel
theorem dX10_truncate_26 : decode cX10_truncate 26 = .ok (.iconst 1, 1) := by decide +kernel
theorem dX10_truncate_27 : decode cX10_truncate 27 = .ok (.ireturn, 1) := by decide +kernel
theorem hyX10_truncate : yX10_truncate.cls ≠ "java/lang/invoke/MethodHandle" ∧ yX10_truncate.cls ≠ "java/lang/invoke/VarHandle" ∧ (parseMethodDescriptor yX10_truncate.desc).map (fun d => d.parameters.length) = some 1 := ⟨by decide +kernel, by decide +kernel, by decide +kernel⟩
def fX10_truncate (σ : zS) (x0 : Nat) (x1 : Int32) : Option (zS × Int32) :=
  (zpI 9 0 σ x0 0).bind fun σ1 => (zgI 9 15 σ1 x0).bind fun v2 => (fX10_isIn σ1 x1.toInt64 0 v2.toInt64).bind fun c3 => (if c3.2 = 0 then zrZ c3.1 0 else (zpI 9 15 c3.1 x0 x1).bind fun σ4 => zrZ σ4 1)
set_option maxRecDepth 100000 in
set_option maxHeartbeats 4000000 in
theorem wfX10_truncate (C : zC p s m args meth c cX10_truncate RX10 2 D Ca B En) (hRm : zRm R 1 25 cells slots) (σ : zS) (x0 : Nat) (x1 : Int32) (τ : zS) (r : Int32) (hf : fX10_truncate σ x0 x1 = some (τ, r)) (hq : ∀ (pc : Nat) (lv : List (Nat × Value)), (r = 0 ∨ r = 1) → decode cX10_truncate pc = .ok (.ireturn, 1) → zW p l e R s m args below meth c cells slots Q D Ca B 2 τ N pc lv [.int r]) : zW p l e R s m args below meth c cells slots Q D Ca B 2 σ N 0 [(0, .ref x0), (1, .int x1)] [] := by
  unfold fX10_truncate at hf
  refine z_aload_n C dX10_truncate_0 rfl 0 rfl ?_
  refine z_iconst C 0 dX10_truncate_1 (by decide) ?_
  obtain ⟨σ1, hσ1, hf⟩ := zbind hf
  refine gp_RX10_92 C hσ1 dX10_truncate_2 ?_
  refine z_iload_n C dX10_truncate_5 rfl 1 rfl ?_
  refine z_i2l C dX10_truncate_6 ?_
  refine z_lconst C 0 dX10_truncate_7 (by decide) ?_
  refine z_aload_n C dX10_truncate_8 rfl 0 rfl ?_
  obtain ⟨v2, hv2, hf⟩ := zbind hf
  refine gf_RX10_357 C hv2 dX10_truncate_9 ?_
  refine z_i2l C dX10_truncate_12 ?_
  obtain ⟨c3, hc3, hf⟩ := zbind hf
  refine z_callSi (As := [.long x1.toInt64, .long 0, .long v2.toInt64]) (F0 := 1) (L0 := 25) C (mX10_isIn l D Ca B En C.2.2.2.2.2.2.2.1 σ1 N x1.toInt64 0 v2.toInt64 _ hc3) hRm kw_1392 kw_14 kw_1390 kw_1391 hyX10_isIn (Nat.le_of_ble_eq_true rfl) (Nat.le_of_ble_eq_true rfl) rfl rfl (Nat.le_of_ble_eq_true rfl) dX10_truncate_13 ?_
  refine z_if_ne C 21 dX10_truncate_16 (by decide) (fun q5 => ?_) (fun q5 => ?_)
  · rw [if_neg q5] at hf
    refine z_aload_n C dX10_truncate_21 rfl 0 rfl ?_
    refine z_iload_n C dX10_truncate_22 rfl 1 rfl ?_
    obtain ⟨σ4, hσ4, hf⟩ := zbind hf
    refine gp_RX10_357 C hσ4 dX10_truncate_23 ?_
    refine z_iconst C 1 dX10_truncate_26 (by decide) ?_
    obtain ⟨e9, b9⟩ := zrZ_ok hf
    cases e9
    exact hq _ _ b9 dX10_truncate_27
  · rw [if_pos q5] at hf
    refine z_iconst C 0 dX10_truncate_19 (by decide) ?_
    obtain ⟨e9, b9⟩ := zrZ_ok hf
    cases e9
    exact hq _ _ b9 dX10_truncate_20

theorem mX10_truncate (l : Launch) (D : va_G) (Ca : Nat → ClassId) (B : Nat) (En : State → Prop) (hE : zEk B En) (σ : zS) (N : Nat) (x0 : Nat) (x1 : Int32) (X : zS × Int32) (hf : fX10_truncate σ x0 x1 = some X) : zMi l D Ca B En yX10_truncate cX10_truncate 2 (Option.some Jvm.ClassFile.FieldType.boolean) 1 25 [.ref x0, .int x1] σ N X.1 X.2 :=
  zMet_i (own := RX10) hE (by decide +kernel) rfl (Nat.le_of_ble_eq_true rfl) (fun p e s m args below meth c C hr hRm => wfX10_truncate C hRm σ x0 x1 X.1 X.2 hf (fun pc lv hb hd => zfin_z C hb hr hd))
theorem dX10_here_0 : decode cX10_here 0 = .ok (.iload_n 1, 1) := by decide +kernel
theorem dX10_here_1 : decode cX10_here 1 = .ok (.aload_n 0, 1) := by decide +kernel
theorem dX10_here_2 : decode cX10_here 2 = .ok (.getfield 360, 3) := by decide +kernel
theorem dX10_here_5 : decode cX10_here 5 = .ok (.if_icmp .ge 16, 3) := by decide +kernel
theorem dX10_here_8 : decode cX10_here 8 = .ok (.aload_n 0, 1) := by decide +kernel
theorem dX10_here_9 : decode cX10_here 9 = .ok (.getfield 40, 3) := by decide +kernel
theorem dX10_here_12 : decode cX10_here 12 = .ok (.iload_n 1, 1) := by decide +kernel
theorem dX10_here_13 : decode cX10_here 13 = .ok (.baload, 1) := by decide +kernel
theorem dX10_here_14 : decode cX10_here 14 = .ok (.sipush 255, 3) := by decide +kernel
theorem dX10_here_17 : decode cX10_here 17 = .ok (.iand, 1) := by decide +kernel
theorem dX10_here_18 : decode cX10_here 18 = .ok (.goto 4, 3) := by decide +kernel
theorem dX10_here_21 : decode cX10_here 21 = .ok (.iconst (-1), 1) := by decide +kernel
theorem dX10_here_22 : decode cX10_here 22 = .ok (.ireturn, 1) := by decide +kernel
theorem hyX10_here : yX10_here.cls ≠ "java/lang/invoke/MethodHandle" ∧ yX10_here.cls ≠ "java/lang/invoke/VarHandle" ∧ (parseMethodDescriptor yX10_here.desc).map (fun d => d.parameters.length) = some 1 := ⟨by decide +kernel, by decide +kernel, by decide +kernel⟩
def fX10_here (σ : zS) (x0 : Nat) (x1 : Int32) : Option (zS × Int32) :=
  (zgI 9 16 σ x0).bind fun v1 => (if v1 ≤ x1 then some (σ, (-1)) else (zgR 9 14 σ x0).bind fun v2 => (zaB σ v2 x1).bind fun v3 => some (σ, v3 &&& 255))
set_option maxRecDepth 100000 in
set_option maxHeartbeats 4000000 in
theorem wfX10_here (C : zC p s m args meth c cX10_here RX10 2 D Ca B En) (hRm : zRm R 0 0 cells slots) (σ : zS) (x0 : Nat) (x1 : Int32) (τ : zS) (r : Int32) (hf : fX10_here σ x0 x1 = some (τ, r)) (hq : ∀ (pc : Nat) (lv : List (Nat × Value)), decode cX10_here pc = .ok (.ireturn, 1) → zW p l e R s m args below meth c cells slots Q D Ca B 2 τ N pc lv [.int r]) : zW p l e R s m args below meth c cells slots Q D Ca B 2 σ N 0 [(0, .ref x0), (1, .int x1)] [] := by
  unfold fX10_here at hf
  refine z_iload_n C dX10_here_0 rfl 1 rfl ?_
  refine z_aload_n C dX10_here_1 rfl 0 rfl ?_
  obtain ⟨v1, hv1, hf⟩ := zbind hf
  refine gf_RX10_360 C hv1 dX10_here_2 ?_
  refine z_icmp_ge C 21 dX10_here_5 (by decide) (fun q4 => ?_) (fun q4 => ?_)
  · rw [if_pos q4] at hf
    refine z_iconst C (-1) dX10_here_21 (by decide) ?_
    cases hf
    exact hq _ _ dX10_here_22
  · rw [if_neg q4] at hf
    refine z_aload_n C dX10_here_8 rfl 0 rfl ?_
    obtain ⟨v2, hv2, hf⟩ := zbind hf
    refine gf_RX10_40 C hv2 dX10_here_9 ?_
    refine z_iload_n C dX10_here_12 rfl 1 rfl ?_
    obtain ⟨v3, hv3, hf⟩ := zbind hf
    refine z_aB C hv3 dX10_here_13 ?_
    refine z_sipush C 255 dX10_here_14 (by decide) ?_
    refine z_iand C dX10_here_17 ?_
    refine z_goto C 22 dX10_here_18 (by decide) ?_
    cases hf
    exact hq _ _ dX10_here_22

theorem mX10_here (l : Launch) (D : va_G) (Ca : Nat → ClassId) (B : Nat) (En : State → Prop) (hE : zEk B En) (σ : zS) (N : Nat) (x0 : Nat) (x1 : Int32) (X : zS × Int32) (hf : fX10_here σ x0 x1 = some X) : zMi l D Ca B En yX10_here cX10_here 2 (Option.some Jvm.ClassFile.FieldType.int) 0 0 [.ref x0, .int x1] σ N X.1 X.2 :=
  zMet_i (own := RX10) hE (by decide +kernel) rfl (Nat.le_of_ble_eq_true rfl) (fun p e s m args below meth c C hr hRm => wfX10_here C hRm σ x0 x1 X.1 X.2 hf (fun pc lv hd => zfin_i C hr hd))
theorem dX10_fine_0 : decode cX10_fine 0 = .ok (.aload_n 0, 1) := by decide +kernel
theorem dX10_fine_1 : decode cX10_fine 1 = .ok (.getfield 402, 3) := by decide +kernel
theorem dX10_fine_4 : decode cX10_fine 4 = .ok (.ifCond .ne 7, 3) := by decide +kernel
theorem dX10_fine_7 : decode cX10_fine 7 = .ok (.iconst 1, 1) := by decide +kernel
theorem dX10_fine_8 : decode cX10_fine 8 = .ok (.goto 4, 3) := by decide +kernel
theorem dX10_fine_11 : decode cX10_fine 11 = .ok (.iconst 0, 1) := by decide +kernel
theorem dX10_fine_12 : decode cX10_fine 12 = .ok (.ireturn, 1) := by decide +kernel
theorem hyX10_fine : yX10_fine.cls ≠ "java/lang/invoke/MethodHandle" ∧ yX10_fine.cls ≠ "java/lang/invoke/VarHandle" ∧ (parseMethodDescriptor yX10_fine.desc).map (fun d => d.parameters.length) = some 0 := ⟨by decide +kernel, by decide +kernel, by decide +kernel⟩
def fX10_fine (σ : zS) (x0 : Nat) : Option (zS × Int32) :=
  (zgI 9 22 σ x0).bind fun v1 => (if v1 = 0 then zrZ σ 1 else zrZ σ 0)
set_option maxRecDepth 100000 in
set_option maxHeartbeats 4000000 in
theorem wfX10_fine (C : zC p s m args meth c cX10_fine RX10 1 D Ca B En) (hRm : zRm R 0 0 cells slots) (σ : zS) (x0 : Nat) (τ : zS) (r : Int32) (hf : fX10_fine σ x0 = some (τ, r)) (hq : ∀ (pc : Nat) (lv : List (Nat × Value)), (r = 0 ∨ r = 1) → decode cX10_fine pc = .ok (.ireturn, 1) → zW p l e R s m args below meth c cells slots Q D Ca B 1 τ N pc lv [.int r]) : zW p l e R s m args below meth c cells slots Q D Ca B 1 σ N 0 [(0, .ref x0)] [] := by
  unfold fX10_fine at hf
  refine z_aload_n C dX10_fine_0 rfl 0 rfl ?_
  obtain ⟨v1, hv1, hf⟩ := zbind hf
  refine gf_RX10_402 C hv1 dX10_fine_1 ?_
  refine z_if_ne C 11 dX10_fine_4 (by decide) (fun q2 => ?_) (fun q2 => ?_)
  · rw [if_neg q2] at hf
    refine z_iconst C 0 dX10_fine_11 (by decide) ?_
    obtain ⟨e9, b9⟩ := zrZ_ok hf
    cases e9
    exact hq _ _ b9 dX10_fine_12
  · rw [if_pos q2] at hf
    refine z_iconst C 1 dX10_fine_7 (by decide) ?_
    refine z_goto C 12 dX10_fine_8 (by decide) ?_
    obtain ⟨e9, b9⟩ := zrZ_ok hf
    cases e9
    exact hq _ _ b9 dX10_fine_12

theorem mX10_fine (l : Launch) (D : va_G) (Ca : Nat → ClassId) (B : Nat) (En : State → Prop) (hE : zEk B En) (σ : zS) (N : Nat) (x0 : Nat) (X : zS × Int32) (hf : fX10_fine σ x0 = some X) : zMi l D Ca B En yX10_fine cX10_fine 1 (Option.some Jvm.ClassFile.FieldType.boolean) 0 0 [.ref x0] σ N X.1 X.2 :=
  zMet_i (own := RX10) hE (by decide +kernel) rfl (Nat.le_of_ble_eq_true rfl) (fun p e s m args below meth c C hr hRm => wfX10_fine C hRm σ x0 X.1 X.2 hf (fun pc lv hb hd => zfin_z C hb hr hd))
theorem dX10_needs_0 : decode cX10_needs 0 = .ok (.aload_n 0, 1) := by decide +kernel
theorem dX10_needs_1 : decode cX10_needs 1 = .ok (.getfield 402, 3) := by decide +kernel
theorem dX10_needs_4 : decode cX10_needs 4 = .ok (.ifCond .ne 7, 3) := by decide +kernel
theorem dX10_needs_7 : decode cX10_needs 7 = .ok (.iload_n 1, 1) := by decide +kernel
theorem dX10_needs_8 : decode cX10_needs 8 = .ok (.ifCond .eq 4, 3) := by decide +kernel
theorem dX10_needs_11 : decode cX10_needs 11 = .ok (.return_, 1) := by decide +kernel
theorem dX10_needs_12 : decode cX10_needs 12 = .ok (.aload_n 0, 1) := by decide +kernel
theorem dX10_needs_13 : decode cX10_needs 13 = .ok (.iload_n 2, 1) := by decide +kernel
theorem dX10_needs_14 : decode cX10_needs 14 = .ok (.putfield 402, 3) := by decide +kernel
theorem dX10_needs_17 : decode cX10_needs 17 = .ok (.aload_n 0, 1) := by decide +kernel
theorem dX10_needs_18 : decode cX10_needs 18 = .ok (.aload_n 0, 1) := by decide +kernel
theorem dX10_needs_19 : decode cX10_needs 19 = .ok (.getfield 369, 3) := by decide +kernel
theorem dX10_needs_22 : decode cX10_needs 22 = .ok (.putfield 44, 3) := by decide +kernel
theorem dX10_needs_25 : decode cX10_needs 25 = .ok (.return_, 1) := by decide +kernel
theorem hyX10_needs : yX10_needs.cls ≠ "java/lang/invoke/MethodHandle" ∧ yX10_needs.cls ≠ "java/lang/invoke/VarHandle" ∧ (parseMethodDescriptor yX10_needs.desc).map (fun d => d.parameters.length) = some 2 := ⟨by decide +kernel, by decide +kernel, by decide +kernel⟩
def fX10_needs (σ : zS) (x0 : Nat) (x1 : Int32) (x2 : Int32) : Option zS :=
  (zgI 9 22 σ x0).bind fun v1 => (if v1 = 0 then (if x1 = 0 then (zpI 9 22 σ x0 x2).bind fun σ2 => (zgI 9 18 σ2 x0).bind fun v3 => (zpI 9 23 σ2 x0 v3).bind fun σ4 => some σ4 else some σ) else some σ)
set_option maxRecDepth 100000 in
set_option maxHeartbeats 4000000 in
theorem wfX10_needs (C : zC p s m args meth c cX10_needs RX10 3 D Ca B En) (hRm : zRm R 0 0 cells slots) (σ : zS) (x0 : Nat) (x1 : Int32) (x2 : Int32) (τ : zS) (hf : fX10_needs σ x0 x1 x2 = some τ) (hq : ∀ (pc : Nat) (lv : List (Nat × Value)), decode cX10_needs pc = .ok (.return_, 1) → zW p l e R s m args below meth c cells slots Q D Ca B 3 τ N pc lv []) : zW p l e R s m args below meth c cells slots Q D Ca B 3 σ N 0 [(0, .ref x0), (1, .int x1), (2, .int x2)] [] := by
  unfold fX10_needs at hf
  refine z_aload_n C dX10_needs_0 rfl 0 rfl ?_
  obtain ⟨v1, hv1, hf⟩ := zbind hf
  refine gf_RX10_402 C hv1 dX10_needs_1 ?_
  refine z_if_ne C 11 dX10_needs_4 (by decide) (fun q6 => ?_) (fun q6 => ?_)
  · rw [if_neg q6] at hf
    cases hf
    exact hq _ _ dX10_needs_11
  · rw [if_pos q6] at hf
    refine z_iload_n C dX10_needs_7 rfl 1 rfl ?_
    refine z_if_eq C 12 dX10_needs_8 (by decide) (fun q5 => ?_) (fun q5 => ?_)
    · rw [if_pos q5] at hf
      refine z_aload_n C dX10_needs_12 rfl 0 rfl ?_
      refine z_iload_n C dX10_needs_13 rfl 2 rfl ?_
      obtain ⟨σ2, hσ2, hf⟩ := zbind hf
      refine gp_RX10_402 C hσ2 dX10_needs_14 ?_
      refine z_aload_n C dX10_needs_17 rfl 0 rfl ?_
      refine z_aload_n C dX10_needs_18 rfl 0 rfl ?_
      obtain ⟨v3, hv3, hf⟩ := zbind hf
      refine gf_RX10_369 C hv3 dX10_needs_19 ?_
      obtain ⟨σ4, hσ4, hf⟩ := zbind hf
      refine gp_RX10_44 C hσ4 dX10_needs_22 ?_
      cases hf
      exact hq _ _ dX10_needs_25
    · rw [if_neg q5] at hf
      cases hf
      exact hq _ _ dX10_needs_11

theorem mX10_needs (l : Launch) (D : va_G) (Ca : Nat → ClassId) (B : Nat) (En : State → Prop) (hE : zEk B En) (σ : zS) (N : Nat) (x0 : Nat) (x1 : Int32) (x2 : Int32) (X : zS) (hf : fX10_needs σ x0 x1 x2 = some X) : zMv l D Ca B En yX10_needs cX10_needs 3 (Option.none : Option Jvm.ClassFile.FieldType) 0 0 [.ref x0, .int x1, .int x2] σ N X () :=
  zMet_v (own := RX10) hE (by decide +kernel) rfl (Nat.le_of_ble_eq_true rfl) (fun p e s m args below meth c C hr hRm => wfX10_needs C hRm σ x0 x1 x2 X hf (fun pc lv hd => zfin_v (r := ()) C hr hd))
theorem dX10_isWord_0 : decode cX10_isWord 0 = .ok (.aload_n 0, 1) := by decide +kernel
theorem dX10_isWord_1 : decode cX10_isWord 1 = .ok (.invokevirtual 405, 3) := by decide +kernel
theorem dX10_isWord_4 : decode cX10_isWord 4 = .ok (.ifCond .eq 23, 3) := by decide +kernel
theorem dX10_isWord_7 : decode cX10_isWord 7 = .ok (.aload_n 0, 1) := by decide +kernel
theorem dX10_isWord_8 : decode cX10_isWord 8 = .ok (.getfield 372, 3) := by decide +kernel
theorem dX10_isWord_11 : decode cX10_isWord 11 = .ok (.iconst 1, 1) := by decide +kernel
theorem dX10_isWord_12 : decode cX10_isWord 12 = .ok (.if_icmp .ne 15, 3) := by decide +kernel
theorem dX10_isWord_15 : decode cX10_isWord 15 = .ok (.aload_n 0, 1) := by decide +kernel
theorem dX10_isWord_16 : decode cX10_isWord 16 = .ok (.getfield 382, 3) := by decide +kernel
theorem dX10_isWord_19 : decode cX10_isWord 19 = .ok (.iload_n 1, 1) := by decide +kernel
theorem dX10_isWord_20 : decode cX10_isWord 20 = .ok (.if_icmp .ne 7, 3) := by decide +kernel
theorem dX10_isWord_23 : decode cX10_isWord 23 = .ok (.iconst 1, 1) := by decide +kernel
theorem dX10_isWord_24 : decode cX10_isWord 24 = .ok (.goto 4, 3) := by decide +kernel
theorem dX10_isWord_27 : decode cX10_isWord 27 = .ok (.iconst 0, 1) := by decide +kernel
theorem dX10_isWord_28 : decode cX10_isWord 28 = .ok (.ireturn, 1) := by decide +kernel
theorem hyX10_isWord : yX10_isWord.cls ≠ "java/lang/invoke/MethodHandle" ∧ yX10_isWord.cls ≠ "java/lang/invoke/VarHandle" ∧ (parseMethodDescriptor yX10_isWord.desc).map (fun d => d.parameters.length) = some 1 := ⟨by decide +kernel, by decide +kernel, by decide +kernel⟩
def fX10_isWord (σ : zS) (x0 : Nat) (x1 : Int32) : Option (zS × Int32) :=
  (zck 9 σ x0 (fX10_fine σ x0 )).bind fun c1 => (if c1.2 = 0 then zrZ c1.1 0 else (zgI 9 19 c1.1 x0).bind fun v2 => (if v2 = 1 then (zgI 9 20 c1.1 x0).bind fun v3 => (if v3 = x1 then zrZ c1.1 1 else zrZ c1.1 0) else zrZ c1.1 0))
set_option maxRecDepth 100000 in
set_option maxHeartbeats 4000000 in
theorem wfX10_isWord (C : zC p s m args meth c cX10_isWord RX10 2 D Ca B En) (hRm : zRm R 1 20 cells slots) (σ : zS) (x0 : Nat) (x1 : Int32) (τ : zS) (r : Int32) (hf : fX10_isWord σ x0 x1 = some (τ, r)) (hq : ∀ (pc : Nat) (lv : List (Nat × Value)), (r = 0 ∨ r = 1) → decode cX10_isWord pc = .ok (.ireturn, 1) → zW p l e R s m args below meth c cells slots Q D Ca B 2 τ N pc lv [.int r]) : zW p l e R s m args below meth c cells slots Q D Ca B 2 σ N 0 [(0, .ref x0), (1, .int x1)] [] := by
  unfold fX10_isWord at hf
  refine z_aload_n C dX10_isWord_0 rfl 0 rfl ?_
  obtain ⟨c1, hc1, hf⟩ := zbind hf
  obtain ⟨kc1, hc1⟩ := zck_ok hc1
  refine z_callVi (As := []) (F0 := 1) (L0 := 20) C (mX10_fine l D Ca B En C.2.2.2.2.2.2.2.1 σ N x0  _ hc1) hRm kc1 rfl kw_1851 kw_14 kw_1848 kw_1850 kp_105 hyX10_fine (Nat.le_of_ble_eq_true rfl) (Nat.le_of_ble_eq_true rfl) rfl rfl (Nat.le_of_ble_eq_true rfl) dX10_isWord_1 ?_
  refine z_if_eq C 27 dX10_isWord_4 (by decide) (fun q6 => ?_) (fun q6 => ?_)
  · rw [if_pos q6] at hf
    refine z_iconst C 0 dX10_isWord_27 (by decide) ?_
    obtain ⟨e9, b9⟩ := zrZ_ok hf
    cases e9
    exact hq _ _ b9 dX10_isWord_28
  · rw [if_neg q6] at hf
    refine z_aload_n C dX10_isWord_7 rfl 0 rfl ?_
    obtain ⟨v2, hv2, hf⟩ := zbind hf
    refine gf_RX10_372 C hv2 dX10_isWord_8 ?_
    refine z_iconst C 1 dX10_isWord_11 (by decide) ?_
    refine z_icmp_ne C 27 dX10_isWord_12 (by decide) (fun q5 => ?_) (fun q5 => ?_)
    · rw [if_neg q5] at hf
      refine z_iconst C 0 dX10_isWord_27 (by decide) ?_
      obtain ⟨e9, b9⟩ := zrZ_ok hf
      cases e9
      exact hq _ _ b9 dX10_isWord_28
    · rw [if_pos q5] at hf
      refine z_aload_n C dX10_isWord_15 rfl 0 rfl ?_
      obtain ⟨v3, hv3, hf⟩ := zbind hf
      refine gf_RX10_382 C hv3 dX10_isWord_16 ?_
      refine z_iload_n C dX10_isWord_19 rfl 1 rfl ?_
      refine z_icmp_ne C 27 dX10_isWord_20 (by decide) (fun q4 => ?_) (fun q4 => ?_)
      · rw [if_neg q4] at hf
        refine z_iconst C 0 dX10_isWord_27 (by decide) ?_
        obtain ⟨e9, b9⟩ := zrZ_ok hf
        cases e9
        exact hq _ _ b9 dX10_isWord_28
      · rw [if_pos q4] at hf
        refine z_iconst C 1 dX10_isWord_23 (by decide) ?_
        refine z_goto C 28 dX10_isWord_24 (by decide) ?_
        obtain ⟨e9, b9⟩ := zrZ_ok hf
        cases e9
        exact hq _ _ b9 dX10_isWord_28

theorem mX10_isWord (l : Launch) (D : va_G) (Ca : Nat → ClassId) (B : Nat) (En : State → Prop) (hE : zEk B En) (σ : zS) (N : Nat) (x0 : Nat) (x1 : Int32) (X : zS × Int32) (hf : fX10_isWord σ x0 x1 = some X) : zMi l D Ca B En yX10_isWord cX10_isWord 2 (Option.some Jvm.ClassFile.FieldType.boolean) 1 20 [.ref x0, .int x1] σ N X.1 X.2 :=
  zMet_i (own := RX10) hE (by decide +kernel) rfl (Nat.le_of_ble_eq_true rfl) (fun p e s m args below meth c C hr hRm => wfX10_isWord C hRm σ x0 x1 X.1 X.2 hf (fun pc lv hb hd => zfin_z C hb hr hd))
theorem dX10_nameHere_0 : decode cX10_nameHere 0 = .ok (.lconst 0, 1) := by decide +kernel
theorem dX10_nameHere_1 : decode cX10_nameHere 1 = .ok (.lstore_n 1, 1) := by decide +kernel
theorem dX10_nameHere_2 : decode cX10_nameHere 2 = .ok (.aload_n 0, 1) := by decide +kernel
theorem dX10_nameHere_3 : decode cX10_nameHere 3 = .ok (.getfield 369, 3) := by decide +kernel
theorem dX10_nameHere_6 : decode cX10_nameHere 6 = .ok (.istore_n 3, 1) := by decide +kernel
theorem dX10_nameHere_7 : decode cX10_nameHere 7 = .ok (.iload_n 3, 1) := by decide +kernel
theorem dX10_nameHere_8 : decode cX10_nameHere 8 = .ok (.aload_n 0, 1) := by decide +kernel
theorem dX10_nameHere_9 : decode cX10_nameHere 9 = .ok (.getfield 363, 3) := by decide +kernel
theorem dX10_nameHere_12 : decode cX10_nameHere 12 = .ok (.if_icmp .ge 27, 3) := by decide +kernel
theorem dX10_nameHere_15 : decode cX10_nameHere 15 = .ok (.ldc2_w 424, 3) := by decide +kernel
theorem dX10_nameHere_18 : decode cX10_nameHere 18 = .ok (.lload_n 1, 1) := by decide +kernel
theorem dX10_nameHere_19 : decode cX10_nameHere 19 = .ok (.lmul, 1) := by decide +kernel
theorem dX10_nameHere_20 : decode cX10_nameHere 20 = .ok (.aload_n 0, 1) := by decide +kernel
theorem dX10_nameHere_21 : decode cX10_nameHere 21 = .ok (.getfield 40, 3) := by decide +kernel
theorem dX10_nameHere_24 : decode cX10_nameHere 24 = .ok (.iload_n 3, 1) := by decide +kernel
theorem dX10_nameHere_25 : decode cX10_nameHere 25 = .ok (.baload, 1) := by decide +kernel
theorem dX10_nameHere_26 : decode cX10_nameHere 26 = .ok (.i2l, 1) := by decide +kernel
theorem dX10_nameHere_27 : decode cX10_nameHere 27 = .ok (.ladd, 1) := by decide +kernel
theorem dX10_nameHere_28 : decode cX10_nameHere 28 = .ok (.ldc2_w 426, 3) := by decide +kernel
theorem dX10_nameHere_31 : decode cX10_nameHere 31 = .ok (.lsub, 1) := by decide +kernel
theorem dX10_nameHere_32 : decode cX10_nameHere 32 = .ok (.lstore_n 1, 1) := by decide +kernel
theorem dX10_nameHere_33 : decode cX10_nameHere 33 = .ok (.iinc 3 1, 3) := by decide +kernel
theorem dX10_nameHere_36 : decode cX10_nameHere 36 = .ok (.goto (-29), 3) := by decide +kernel
theorem dX10_nameHere_39 : decode cX10_nameHere 39 = .ok (.lload_n 1, 1) := by decide +kernel
theorem dX10_nameHere_40 : decode cX10_nameHere 40 = .ok (.lreturn, 1) := by decide +kernel
theorem hyX10_nameHere : yX10_nameHere.cls ≠ "java/lang/invoke/MethodHandle" ∧ yX10_nameHere.cls ≠ "java/lang/invoke/VarHandle" ∧ (parseMethodDescriptor yX10_nameHere.desc).map (fun d => d.parameters.length) = some 0 := ⟨by decide +kernel, by decide +kernel, by decide +kernel⟩
def sX10_nameHere_7b (x0 : Nat) (σ : zS) (u1 : Int64) (u3 : Int32) : Option ((zS × Int64 × Int32) ⊕ (zS × Int64)) :=
  (zgI 9 17 σ x0).bind fun v2 => (if v2 ≤ u3 then some (.inr (σ, u1)) else (zgR 9 14 σ x0).bind fun v3 => (zaB σ v3 u3).bind fun v4 => some (.inl (σ, ((27 * u1) + v4.toInt64) - 96, u3 + 1)))
def sX10_nameHere_7 (x0 : Nat) (z : (zS × Int64 × Int32)) : Option ((zS × Int64 × Int32) ⊕ (zS × Int64)) := sX10_nameHere_7b x0 z.1 z.2.1 z.2.2
set_option maxRecDepth 100000 in
set_option maxHeartbeats 4000000 in
theorem wsX10_nameHere_7b (C : zC p s m args meth c cX10_nameHere RX10 4 D Ca B En) (hRm : zRm R 0 0 cells slots) (x0 : Nat) (σ : zS) (u1 : Int64) (u3 : Int32) (y : (zS × Int64 × Int32) ⊕ (zS × Int64)) (hf : sX10_nameHere_7b x0 σ u1 u3 = some y) (hk : (∀ z : (zS × Int64 × Int32), y = .inl z → zW p l e R s m args below meth c cells slots Q D Ca B 4 z.1 N 7 [(0, .ref x0), (1, .long z.2.1), (3, .int z.2.2)] []) ∧ (∀ z : (zS × Int64), y = .inr z → zW p l e R s m args below meth c cells slots Q D Ca B 4 z.1 N 39 [(1, .long z.2)] [])) : zW p l e R s m args below meth c cells slots Q D Ca B 4 σ N 7 [(0, .ref x0), (1, .long u1), (3, .int u3)] [] := by
  unfold sX10_nameHere_7b at hf
  refine z_iload_n C dX10_nameHere_7 rfl 2 rfl ?_
  refine z_aload_n C dX10_nameHere_8 rfl 0 rfl ?_
  obtain ⟨v2, hv2, hf⟩ := zbind hf
  refine gf_RX10_363 C hv2 dX10_nameHere_9 ?_
  refine z_icmp_ge C 39 dX10_nameHere_12 (by decide) (fun q5 => ?_) (fun q5 => ?_)
  · rw [if_pos q5] at hf
    cases hf
    refine z_sub [1] rfl ?_
    exact hk.2 _ rfl
  · rw [if_neg q5] at hf
    refine z_ldc2 C kw_1876 dX10_nameHere_15 ?_
    refine z_lload_n C dX10_nameHere_18 rfl 1 rfl ?_
    refine z_lmul C dX10_nameHere_19 ?_
    refine z_aload_n C dX10_nameHere_20 rfl 0 rfl ?_
    obtain ⟨v3, hv3, hf⟩ := zbind hf
    refine gf_RX10_40 C hv3 dX10_nameHere_21 ?_
    refine z_iload_n C dX10_nameHere_24 rfl 2 rfl ?_
    obtain ⟨v4, hv4, hf⟩ := zbind hf
    refine z_aB C hv4 dX10_nameHere_25 ?_
    refine z_i2l C dX10_nameHere_26 ?_
    refine z_ladd C dX10_nameHere_27 ?_
    refine z_ldc2 C kw_1877 dX10_nameHere_28 ?_
    refine z_lsub C dX10_nameHere_31 ?_
    refine z_lstore_n (lv2 := [(1, .long (((27 * u1) + v4.toInt64) - 96)), (0, .ref x0), (3, .int u3)]) C dX10_nameHere_32 rfl (by decide) rfl ?_
    refine z_iinc (lv2 := [(3, .int (u3 + 1)), (1, .long (((27 * u1) + v4.toInt64) - 96)), (0, .ref x0)]) C (u3 + 1) dX10_nameHere_33 2 rfl rfl (by decide) rfl ?_
    refine z_goto C 7 dX10_nameHere_36 (by decide) ?_
    cases hf
    refine z_sub [2, 1, 0] rfl ?_
    exact hk.1 _ rfl

theorem wsX10_nameHere_7 (C : zC p s m args meth c cX10_nameHere RX10 4 D Ca B En) (hRm : zRm R 0 0 cells slots) (x0 : Nat) (n : Nat) (z : (zS × Int64 × Int32)) (x : (zS × Int64)) (hf : zloop (sX10_nameHere_7 x0) n z = some x) (hk : (∀ o : (zS × Int64), x = o → zW p l e R s m args below meth c cells slots Q D Ca B 4 o.1 N 39 [(1, .long o.2)] [])) : zW p l e R s m args below meth c cells slots Q D Ca B 4 z.1 N 7 [(0, .ref x0), (1, .long z.2.1), (3, .int z.2.2)] [] := by
  refine zloop_W (P := fun z : (zS × Int64 × Int32) => zW p l e R s m args below meth c cells slots Q D Ca B 4 z.1 N 7 [(0, .ref x0), (1, .long z.2.1), (3, .int z.2.2)] []) (K := fun x : (zS × Int64) => (∀ o : (zS × Int64), x = o → zW p l e R s m args below meth c cells slots Q D Ca B 4 o.1 N 39 [(1, .long o.2)] [])) ?_ n z x hf hk
  intro z y hy h1 h2
  refine wsX10_nameHere_7b C hRm x0 z.1 z.2.1 z.2.2 y hy ⟨fun z2 e => h1 z2 e, fun o e => (h2 _ e) o rfl⟩
def fX10_nameHere (σ : zS) (x0 : Nat) : Option (zS × Int64) :=
  (zgI 9 18 σ x0).bind fun v1 => (zloop (sX10_nameHere_7 x0) zfuel (σ, 0, v1)).bind fun o6 => some (o6.1, o6.2)
set_option maxRecDepth 100000 in
set_option maxHeartbeats 4000000 in
theorem wfX10_nameHere (C : zC p s m args meth c cX10_nameHere RX10 4 D Ca B En) (hRm : zRm R 0 0 cells slots) (σ : zS) (x0 : Nat) (τ : zS) (r : Int64) (hf : fX10_nameHere σ x0 = some (τ, r)) (hq : ∀ (pc : Nat) (lv : List (Nat × Value)), decode cX10_nameHere pc = .ok (.lreturn, 1) → zW p l e R s m args below meth c cells slots Q D Ca B 4 τ N pc lv [.long r]) : zW p l e R s m args below meth c cells slots Q D Ca B 4 σ N 0 [(0, .ref x0)] [] := by
  unfold fX10_nameHere at hf
  refine z_lconst C 0 dX10_nameHere_0 (by decide) ?_
  refine z_lstore_n (lv2 := [(1, .long 0), (0, .ref x0)]) C dX10_nameHere_1 rfl (by decide) rfl ?_
  refine z_aload_n C dX10_nameHere_2 rfl 1 rfl ?_
  obtain ⟨v1, hv1, hf⟩ := zbind hf
  refine gf_RX10_369 C hv1 dX10_nameHere_3 ?_
  refine z_istore_n (lv2 := [(3, .int v1), (1, .long 0), (0, .ref x0)]) C dX10_nameHere_6 rfl (by decide) rfl ?_
  obtain ⟨o6, ho6, hf⟩ := zbind hf
  refine z_sub [2, 1, 0] rfl ?_
  refine wsX10_nameHere_7 C hRm _ zfuel (σ, 0, v1) o6 ho6 ?_
  intro z9 e9
  subst e9
  refine z_lload_n C dX10_nameHere_39 rfl 0 rfl ?_
  cases hf
  exact hq _ _ dX10_nameHere_40

theorem mX10_nameHere (l : Launch) (D : va_G) (Ca : Nat → ClassId) (B : Nat) (En : State → Prop) (hE : zEk B En) (σ : zS) (N : Nat) (x0 : Nat) (X : zS × Int64) (hf : fX10_nameHere σ x0 = some X) : zMl l D Ca B En yX10_nameHere cX10_nameHere 4 (Option.some Jvm.ClassFile.FieldType.long) 0 0 [.ref x0] σ N X.1 X.2 :=
  zMet_l (own := RX10) hE (by decide +kernel) rfl (Nat.le_of_ble_eq_true rfl) (fun p e s m args below meth c C hr hRm => wfX10_nameHere C hRm σ x0 X.1 X.2 hf (fun pc lv hd => zfin_l C hr hd))
theorem dX10_placeOf_0 : decode cX10_placeOf 0 = .ok (.iconst 0, 1) := by decide +kernel
theorem dX10_placeOf_1 : decode cX10_placeOf 1 = .ok (.istore 4, 2) := by decide +kernel
theorem dX10_placeOf_3 : decode cX10_placeOf 3 = .ok (.iload 4, 2) := by decide +kernel
theorem dX10_placeOf_5 : decode cX10_placeOf 5 = .ok (.iload_n 3, 1) := by decide +kernel
theorem dX10_placeOf_6 : decode cX10_placeOf 6 = .ok (.if_icmp .ge 21, 3) := by decide +kernel
theorem dX10_placeOf_9 : decode cX10_placeOf 9 = .ok (.aload_n 2, 1) := by decide +kernel
theorem dX10_placeOf_10 : decode cX10_placeOf 10 = .ok (.iload 4, 2) := by decide +kernel
theorem dX10_placeOf_12 : decode cX10_placeOf 12 = .ok (.laload, 1) := by decide +kernel
theorem dX10_placeOf_13 : decode cX10_placeOf 13 = .ok (.lload_n 0, 1) := by decide +kernel
theorem dX10_placeOf_14 : decode cX10_placeOf 14 = .ok (.lcmp, 1) := by decide +kernel
theorem dX10_placeOf_15 : decode cX10_placeOf 15 = .ok (.ifCond .ne 6, 3) := by decide +kernel
theorem dX10_placeOf_18 : decode cX10_placeOf 18 = .ok (.iload 4, 2) := by decide +kernel
theorem dX10_placeOf_20 : decode cX10_placeOf 20 = .ok (.ireturn, 1) := by decide +kernel
theorem dX10_placeOf_21 : decode cX10_placeOf 21 = .ok (.iinc 4 1, 3) := by decide +kernel
theorem dX10_placeOf_24 : decode cX10_placeOf 24 = .ok (.goto (-21), 3) := by decide +kernel
theorem dX10_placeOf_27 : decode cX10_placeOf 27 = .ok (.iconst (-1), 1) := by decide +kernel
theorem dX10_placeOf_28 : decode cX10_placeOf 28 = .ok (.ireturn, 1) := by decide +kernel
theorem hyX10_placeOf : yX10_placeOf.cls ≠ "java/lang/invoke/MethodHandle" ∧ yX10_placeOf.cls ≠ "java/lang/invoke/VarHandle" ∧ (parseMethodDescriptor yX10_placeOf.desc).map (fun d => d.parameters.length) = some 3 := ⟨by decide +kernel, by decide +kernel, by decide +kernel⟩
def sX10_placeOf_3b (x0 : Int64) (x2 : Nat) (x3 : Int32) (σ : zS) (u4 : Int32) : Option ((zS × Int32) ⊕ ((zS × Int32) ⊕ zS)) :=
  (if x3 ≤ u4 then some (.inr (.inr σ)) else (zaJ σ x2 u4).bind fun v1 => (if (lg_cmp v1 x0) = 0 then some (.inr (.inl (σ, u4))) else some (.inl (σ, u4 + 1))))
def sX10_placeOf_3 (x0 : Int64) (x2 : Nat) (x3 : Int32) (z : (zS × Int32)) : Option ((zS × Int32) ⊕ ((zS × Int32) ⊕ zS)) := sX10_placeOf_3b x0 x2 x3 z.1 z.2
set_option maxRecDepth 100000 in
set_option maxHeartbeats 4000000 in
theorem wsX10_placeOf_3b (C : zC p s m args meth c cX10_placeOf RX10 5 D Ca B En) (hRm : zRm R 0 0 cells slots) (x0 : Int64) (x2 : Nat) (x3 : Int32) (σ : zS) (u4 : Int32) (y : (zS × Int32) ⊕ ((zS × Int32) ⊕ zS)) (hf : sX10_placeOf_3b x0 x2 x3 σ u4 = some y) (hk : (∀ z : (zS × Int32), y = .inl z → zW p l e R s m args below meth c cells slots Q D Ca B 5 z.1 N 3 [(0, .long x0), (2, .ref x2), (3, .int x3), (4, .int z.2)] []) ∧ (∀ z : (zS × Int32), y = .inr (.inl z) → zW p l e R s m args below meth c cells slots Q D Ca B 5 z.1 N 18 [(4, .int z.2)] []) ∧ (∀ z : zS, y = .inr (.inr z) → zW p l e R s m args below meth c cells slots Q D Ca B 5 z N 27 [] [])) : zW p l e R s m args below meth c cells slots Q D Ca B 5 σ N 3 [(0, .long x0), (2, .ref x2), (3, .int x3), (4, .int u4)] [] := by
  unfold sX10_placeOf_3b at hf
  refine z_iload C dX10_placeOf_3 3 rfl ?_
  refine z_iload_n C dX10_placeOf_5 rfl 2 rfl ?_
  refine z_icmp_ge C 27 dX10_placeOf_6 (by decide) (fun q3 => ?_) (fun q3 => ?_)
  · rw [if_pos q3] at hf
    cases hf
    refine z_sub [] rfl ?_
    exact hk.2.2 _ rfl
  · rw [if_neg q3] at hf
    refine z_aload_n C dX10_placeOf_9 rfl 1 rfl ?_
    refine z_iload C dX10_placeOf_10 3 rfl ?_
    obtain ⟨v1, hv1, hf⟩ := zbind hf
    refine z_aJ C hv1 dX10_placeOf_12 ?_
    refine z_lload_n C dX10_placeOf_13 rfl 0 rfl ?_
    refine z_lcmp C dX10_placeOf_14 ?_
    refine z_if_ne C 21 dX10_placeOf_15 (by decide) (fun q2 => ?_) (fun q2 => ?_)
    · rw [if_neg q2] at hf
      refine z_iinc (lv2 := [(4, .int (u4 + 1)), (0, .long x0), (2, .ref x2), (3, .int x3)]) C (u4 + 1) dX10_placeOf_21 3 rfl rfl (by decide) rfl ?_
      refine z_goto C 3 dX10_placeOf_24 (by decide) ?_
      cases hf
      refine z_sub [1, 2, 3, 0] rfl ?_
      exact hk.1 _ rfl
    · rw [if_pos q2] at hf
      cases hf
      refine z_sub [3] rfl ?_
      exact hk.2.1 _ rfl

theorem wsX10_placeOf_3 (C : zC p s m args meth c cX10_placeOf RX10 5 D Ca B En) (hRm : zRm R 0 0 cells slots) (x0 : Int64) (x2 : Nat) (x3 : Int32) (n : Nat) (z : (zS × Int32)) (x : ((zS × Int32) ⊕ zS)) (hf : zloop (sX10_placeOf_3 x0 x2 x3) n z = some x) (hk : (∀ o : (zS × Int32), x = (.inl o) → zW p l e R s m args below meth c cells slots Q D Ca B 5 o.1 N 18 [(4, .int o.2)] []) ∧ (∀ o : zS, x = (.inr o) → zW p l e R s m args below meth c cells slots Q D Ca B 5 o N 27 [] [])) : zW p l e R s m args below meth c cells slots Q D Ca B 5 z.1 N 3 [(0, .long x0), (2, .ref x2), (3, .int x3), (4, .int z.2)] [] := by
  refine zloop_W (P := fun z : (zS × Int32) => zW p l e R s m args below meth c cells slots Q D Ca B 5 z.1 N 3 [(0, .long x0), (2, .ref x2), (3, .int x3), (4, .int z.2)] []) (K := fun x : ((zS × Int32) ⊕ zS) => (∀ o : (zS × Int32), x = (.inl o) → zW p l e R s m args below meth c cells slots Q D Ca B 5 o.1 N 18 [(4, .int o.2)] []) ∧ (∀ o : zS, x = (.inr o) → zW p l e R s m args below meth c cells slots Q D Ca B 5 o N 27 [] [])) ?_ n z x hf hk
  intro z y hy h1 h2
  refine wsX10_placeOf_3b C hRm x0 x2 x3 z.1 z.2 y hy ⟨fun z2 e => h1 z2 e, fun o e => (h2 _ e).1 o rfl, fun o e => (h2 _ e).2 o rfl⟩
def fX10_placeOf (σ : zS) (x0 : Int64) (x2 : Nat) (x3 : Int32) : Option (zS × Int32) :=
  (zloop (sX10_placeOf_3 x0 x2 x3) zfuel (σ, 0)).bind fun o4 => (match o4 with | (.inl z5) => some (z5.1, z5.2) | (.inr z6) => some (z6, (-1)))
set_option maxRecDepth 100000 in
set_option maxHeartbeats 4000000 in
theorem wfX10_placeOf (C : zC p s m args meth c cX10_placeOf RX10 5 D Ca B En) (hRm : zRm R 0 0 cells slots) (σ : zS) (x0 : Int64) (x2 : Nat) (x3 : Int32) (τ : zS) (r : Int32) (hf : fX10_placeOf σ x0 x2 x3 = some (τ, r)) (hq : ∀ (pc : Nat) (lv : List (Nat × Value)), decode cX10_placeOf pc = .ok (.ireturn, 1) → zW p l e R s m args below meth c cells slots Q D Ca B 5 τ N pc lv [.int r]) : zW p l e R s m args below meth c cells slots Q D Ca B 5 σ N 0 [(0, .long x0), (2, .ref x2), (3, .int x3)] [] := by
  unfold fX10_placeOf at hf
  refine z_iconst C 0 dX10_placeOf_0 (by decide) ?_
  refine z_istore (lv2 := [(4, .int 0), (0, .long x0), (2, .ref x2), (3, .int x3)]) C dX10_placeOf_1 (by decide) rfl ?_
  obtain ⟨o4, ho4, hf⟩ := zbind hf
  refine z_sub [1, 2, 3, 0] rfl ?_
  refine wsX10_placeOf_3 C hRm _ _ _ zfuel (σ, 0) o4 ho4 ⟨?_, ?_⟩
  · intro z5 e9
    subst e9
    dsimp only at hf
    refine z_iload C dX10_placeOf_18 0 rfl ?_
    cases hf
    exact hq _ _ dX10_placeOf_20
  · intro z6 e9
    subst e9
    dsimp only at hf
    refine z_iconst C (-1) dX10_placeOf_27 (by decide) ?_
    cases hf
    exact hq _ _ dX10_placeOf_28

theorem mX10_placeOf (l : Launch) (D : va_G) (Ca : Nat → ClassId) (B : Nat) (En : State → Prop) (hE : zEk B En) (σ : zS) (N : Nat) (x0 : Int64) (x2 : Nat) (x3 : Int32) (X : zS × Int32) (hf : fX10_placeOf σ x0 x2 x3 = some X) : zMi l D Ca B En yX10_placeOf cX10_placeOf 5 (Option.some Jvm.ClassFile.FieldType.int) 0 0 [.long x0, .ref x2, .int x3] σ N X.1 X.2 :=
  zMet_i (own := RX10) hE (by decide +kernel) rfl (Nat.le_of_ble_eq_true rfl) (fun p e s m args below meth c C hr hRm => wfX10_placeOf C hRm σ x0 x2 x3 X.1 X.2 hf (fun pc lv hd => zfin_i C hr hd))
theorem dX10_errorCode_0 : decode cX10_errorCode 0 = .ok (.aload_n 0, 1) := by decide +kernel
theorem dX10_errorCode_1 : decode cX10_errorCode 1 = .ok (.iconst 0, 1) := by decide +kernel
theorem dX10_errorCode_2 : decode cX10_errorCode 2 = .ok (.putfield 92, 3) := by decide +kernel
theorem dX10_errorCode_5 : decode cX10_errorCode 5 = .ok (.aload_n 0, 1) := by decide +kernel
theorem dX10_errorCode_6 : decode cX10_errorCode 6 = .ok (.getfield 402, 3) := by decide +kernel
theorem dX10_errorCode_9 : decode cX10_errorCode 9 = .ok (.ireturn, 1) := by decide +kernel
theorem hyX10_errorCode : yX10_errorCode.cls ≠ "java/lang/invoke/MethodHandle" ∧ yX10_errorCode.cls ≠ "java/lang/invoke/VarHandle" ∧ (parseMethodDescriptor yX10_errorCode.desc).map (fun d => d.parameters.length) = some 0 := ⟨by decide +kernel, by decide +kernel, by decide +kernel⟩
def fX10_errorCode (σ : zS) (x0 : Nat) : Option (zS × Int32) :=
  (zpI 9 0 σ x0 0).bind fun σ1 => (zgI 9 22 σ1 x0).bind fun v2 => some (σ1, v2)
set_option maxRecDepth 100000 in
set_option maxHeartbeats 4000000 in
theorem wfX10_errorCode (C : zC p s m args meth c cX10_errorCode RX10 1 D Ca B En) (hRm : zRm R 0 0 cells slots) (σ : zS) (x0 : Nat) (τ : zS) (r : Int32) (hf : fX10_errorCode σ x0 = some (τ, r)) (hq : ∀ (pc : Nat) (lv : List (Nat × Value)), decode cX10_errorCode pc = .ok (.ireturn, 1) → zW p l e R s m args below meth c cells slots Q D Ca B 1 τ N pc lv [.int r]) : zW p l e R s m args below meth c cells slots Q D Ca B 1 σ N 0 [(0, .ref x0)] [] := by
  unfold fX10_errorCode at hf
  refine z_aload_n C dX10_errorCode_0 rfl 0 rfl ?_
  refine z_iconst C 0 dX10_errorCode_1 (by decide) ?_
  obtain ⟨σ1, hσ1, hf⟩ := zbind hf
  refine gp_RX10_92 C hσ1 dX10_errorCode_2 ?_
  refine z_aload_n C dX10_errorCode_5 rfl 0 rfl ?_
  obtain ⟨v2, hv2, hf⟩ := zbind hf
  refine gf_RX10_402 C hv2 dX10_errorCode_6 ?_
  cases hf
  exact hq _ _ dX10_errorCode_9

theorem mX10_errorCode (l : Launch) (D : va_G) (Ca : Nat → ClassId) (B : Nat) (En : State → Prop) (hE : zEk B En) (σ : zS) (N : Nat) (x0 : Nat) (X : zS × Int32) (hf : fX10_errorCode σ x0 = some X) : zMi l D Ca B En yX10_errorCode cX10_errorCode 1 (Option.some Jvm.ClassFile.FieldType.int) 0 0 [.ref x0] σ N X.1 X.2 :=
  zMet_i (own := RX10) hE (by decide +kernel) rfl (Nat.le_of_ble_eq_true rfl) (fun p e s m args below meth c C hr hRm => wfX10_errorCode C hRm σ x0 X.1 X.2 hf (fun pc lv hd => zfin_i C hr hd))
theorem dX10_errorOffset_0 : decode cX10_errorOffset 0 = .ok (.aload_n 0, 1) := by decide +kernel
theorem dX10_errorOffset_1 : decode cX10_errorOffset 1 = .ok (.iconst 0, 1) := by decide +kernel
theorem dX10_errorOffset_2 : decode cX10_errorOffset 2 = .ok (.putfield 92, 3) := by decide +kernel
theorem dX10_errorOffset_5 : decode cX10_errorOffset 5 = .ok (.aload_n 0, 1) := by decide +kernel
theorem dX10_errorOffset_6 : decode cX10_errorOffset 6 = .ok (.getfield 44, 3) := by decide +kernel
theorem dX10_errorOffset_9 : decode cX10_errorOffset 9 = .ok (.ireturn, 1) := by decide +kernel
theorem hyX10_errorOffset : yX10_errorOffset.cls ≠ "java/lang/invoke/MethodHandle" ∧ yX10_errorOffset.cls ≠ "java/lang/invoke/VarHandle" ∧ (parseMethodDescriptor yX10_errorOffset.desc).map (fun d => d.parameters.length) = some 0 := ⟨by decide +kernel, by decide +kernel, by decide +kernel⟩
def fX10_errorOffset (σ : zS) (x0 : Nat) : Option (zS × Int32) :=
  (zpI 9 0 σ x0 0).bind fun σ1 => (zgI 9 23 σ1 x0).bind fun v2 => some (σ1, v2)
set_option maxRecDepth 100000 in
set_option maxHeartbeats 4000000 in
theorem wfX10_errorOffset (C : zC p s m args meth c cX10_errorOffset RX10 1 D Ca B En) (hRm : zRm R 0 0 cells slots) (σ : zS) (x0 : Nat) (τ : zS) (r : Int32) (hf : fX10_errorOffset σ x0 = some (τ, r)) (hq : ∀ (pc : Nat) (lv : List (Nat × Value)), decode cX10_errorOffset pc = .ok (.ireturn, 1) → zW p l e R s m args below meth c cells slots Q D Ca B 1 τ N pc lv [.int r]) : zW p l e R s m args below meth c cells slots Q D Ca B 1 σ N 0 [(0, .ref x0)] [] := by
  unfold fX10_errorOffset at hf
  refine z_aload_n C dX10_errorOffset_0 rfl 0 rfl ?_
  refine z_iconst C 0 dX10_errorOffset_1 (by decide) ?_
  obtain ⟨σ1, hσ1, hf⟩ := zbind hf
  refine gp_RX10_92 C hσ1 dX10_errorOffset_2 ?_
  refine z_aload_n C dX10_errorOffset_5 rfl 0 rfl ?_
  obtain ⟨v2, hv2, hf⟩ := zbind hf
  refine gf_RX10_44 C hv2 dX10_errorOffset_6 ?_
  cases hf
  exact hq _ _ dX10_errorOffset_9

theorem mX10_errorOffset (l : Launch) (D : va_G) (Ca : Nat → ClassId) (B : Nat) (En : State → Prop) (hE : zEk B En) (σ : zS) (N : Nat) (x0 : Nat) (X : zS × Int32) (hf : fX10_errorOffset σ x0 = some X) : zMi l D Ca B En yX10_errorOffset cX10_errorOffset 1 (Option.some Jvm.ClassFile.FieldType.int) 0 0 [.ref x0] σ N X.1 X.2 :=
  zMet_i (own := RX10) hE (by decide +kernel) rfl (Nat.le_of_ble_eq_true rfl) (fun p e s m args below meth c C hr hRm => wfX10_errorOffset C hRm σ x0 X.1 X.2 hf (fun pc lv hd => zfin_i C hr hd))
theorem dX10_says_0 : decode cX10_says 0 = .ok (.aload_n 0, 1) := by decide +kernel
theorem dX10_says_1 : decode cX10_says 1 = .ok (.getfield 57, 3) := by decide +kernel
theorem dX10_says_4 : decode cX10_says 4 = .ok (.aload_n 0, 1) := by decide +kernel
theorem dX10_says_5 : decode cX10_says 5 = .ok (.getfield 455, 3) := by decide +kernel
theorem dX10_says_8 : decode cX10_says 8 = .ok (.iload_n 1, 1) := by decide +kernel
theorem dX10_says_9 : decode cX10_says 9 = .ok (.i2b, 1) := by decide +kernel
theorem dX10_says_10 : decode cX10_says 10 = .ok (.bastore, 1) := by decide +kernel
theorem dX10_says_11 : decode cX10_says 11 = .ok (.aload_n 0, 1) := by decide +kernel
theorem dX10_says_12 : decode cX10_says 12 = .ok (.aload_n 0, 1) := by decide +kernel
theorem dX10_says_13 : decode cX10_says 13 = .ok (.getfield 455, 3) := by decide +kernel
theorem dX10_says_16 : decode cX10_says 16 = .ok (.iconst 1, 1) := by decide +kernel
theorem dX10_says_17 : decode cX10_says 17 = .ok (.iadd, 1) := by decide +kernel
theorem dX10_says_18 : decode cX10_says 18 = .ok (.putfield 455, 3) := by decide +kernel
theorem dX10_says_21 : decode cX10_says 21 = .ok (.return_, 1) := by decide +kernel
theorem hyX10_says : yX10_says.cls ≠ "java/lang/invoke/MethodHandle" ∧ yX10_says.cls ≠ "java/lang/invoke/VarHandle" ∧ (parseMethodDescriptor yX10_says.desc).map (fun d => d.parameters.length) = some 1 := ⟨by decide +kernel, by decide +kernel, by decide +kernel⟩
def fX10_says (σ : zS) (x0 : Nat) (x1 : Int32) : Option zS :=
  (zgR 9 30 σ x0).bind fun v1 => (zgI 9 31 σ x0).bind fun v2 => (zsB σ v1 v2 x1.toInt8.toInt32).bind fun σ3 => (zgI 9 31 σ3 x0).bind fun v4 => (zpI 9 31 σ3 x0 (v4 + 1)).bind fun σ5 => some σ5
set_option maxRecDepth 100000 in
set_option maxHeartbeats 4000000 in
theorem wfX10_says (C : zC p s m args meth c cX10_says RX10 2 D Ca B En) (hRm : zRm R 0 0 cells slots) (σ : zS) (x0 : Nat) (x1 : Int32) (τ : zS) (hf : fX10_says σ x0 x1 = some τ) (hq : ∀ (pc : Nat) (lv : List (Nat × Value)), decode cX10_says pc = .ok (.return_, 1) → zW p l e R s m args below meth c cells slots Q D Ca B 2 τ N pc lv []) : zW p l e R s m args below meth c cells slots Q D Ca B 2 σ N 0 [(0, .ref x0), (1, .int x1)] [] := by
  unfold fX10_says at hf
  refine z_aload_n C dX10_says_0 rfl 0 rfl ?_
  obtain ⟨v1, hv1, hf⟩ := zbind hf
  refine gf_RX10_57 C hv1 dX10_says_1 ?_
  refine z_aload_n C dX10_says_4 rfl 0 rfl ?_
  obtain ⟨v2, hv2, hf⟩ := zbind hf
  refine gf_RX10_455 C hv2 dX10_says_5 ?_
  refine z_iload_n C dX10_says_8 rfl 1 rfl ?_
  refine z_i2b C dX10_says_9 ?_
  obtain ⟨σ3, hσ3, hf⟩ := zbind hf
  refine z_sB C hσ3 dX10_says_10 ?_
  refine z_aload_n C dX10_says_11 rfl 0 rfl ?_
  refine z_aload_n C dX10_says_12 rfl 0 rfl ?_
  obtain ⟨v4, hv4, hf⟩ := zbind hf
  refine gf_RX10_455 C hv4 dX10_says_13 ?_
  refine z_iconst C 1 dX10_says_16 (by decide) ?_
  refine z_iadd C dX10_says_17 ?_
  obtain ⟨σ5, hσ5, hf⟩ := zbind hf
  refine gp_RX10_455 C hσ5 dX10_says_18 ?_
  cases hf
  exact hq _ _ dX10_says_21

theorem mX10_says (l : Launch) (D : va_G) (Ca : Nat → ClassId) (B : Nat) (En : State → Prop) (hE : zEk B En) (σ : zS) (N : Nat) (x0 : Nat) (x1 : Int32) (X : zS) (hf : fX10_says σ x0 x1 = some X) : zMv l D Ca B En yX10_says cX10_says 2 (Option.none : Option Jvm.ClassFile.FieldType) 0 0 [.ref x0, .int x1] σ N X () :=
  zMet_v (own := RX10) hE (by decide +kernel) rfl (Nat.le_of_ble_eq_true rfl) (fun p e s m args below meth c C hr hRm => wfX10_says C hRm σ x0 x1 X hf (fun pc lv hd => zfin_v (r := ()) C hr hd))
theorem dX10_outputByte_0 : decode cX10_outputByte 0 = .ok (.aload_n 0, 1) := by decide +kernel
theorem dX10_outputByte_1 : decode cX10_outputByte 1 = .ok (.iconst 0, 1) := by decide +kernel
theorem dX10_outputByte_2 : decode cX10_outputByte 2 = .ok (.putfield 92, 3) := by decide +kernel
theorem dX10_outputByte_5 : decode cX10_outputByte 5 = .ok (.iload_n 1, 1) := by decide +kernel
theorem dX10_outputByte_6 : decode cX10_outputByte 6 = .ok (.i2l, 1) := by decide +kernel
theorem dX10_outputByte_7 : decode cX10_outputByte 7 = .ok (.lconst 0, 1) := by decide +kernel
theorem dX10_outputByte_8 : decode cX10_outputByte 8 = .ok (.aload_n 0, 1) := by decide +kernel
theorem dX10_outputByte_9 : decode cX10_outputByte 9 = .ok (.getfield 455, 3) := by decide +kernel
theorem dX10_outputByte_12 : decode cX10_outputByte 12 = .ok (.i2l, 1) := by decide +kernel
theorem dX10_outputByte_13 : decode cX10_outputByte 13 = .ok (.lconst 1, 1) := by decide +kernel
theorem dX10_outputByte_14 : decode cX10_outputByte 14 = .ok (.lsub, 1) := by decide +kernel
theorem dX10_outputByte_15 : decode cX10_outputByte 15 = .ok (.invokestatic 247, 3) := by decide +kernel
theorem dX10_outputByte_18 : decode cX10_outputByte 18 = .ok (.ifCond .eq 12, 3) := by decide +kernel
theorem dX10_outputByte_21 : decode cX10_outputByte 21 = .ok (.aload_n 0, 1) := by decide +kernel
theorem dX10_outputByte_22 : decode cX10_outputByte 22 = .ok (.getfield 57, 3) := by decide +kernel
theorem dX10_outputByte_25 : decode cX10_outputByte 25 = .ok (.iload_n 1, 1) := by decide +kernel
theorem dX10_outputByte_26 : decode cX10_outputByte 26 = .ok (.baload, 1) := by decide +kernel
theorem dX10_outputByte_27 : decode cX10_outputByte 27 = .ok (.goto 4, 3) := by decide +kernel
theorem dX10_outputByte_30 : decode cX10_outputByte 30 = .ok (.iconst (-1), 1) := by decide +kernel
theorem dX10_outputByte_31 : decode cX10_outputByte 31 = .ok (.ireturn, 1) := by decide +kernel
theorem hyX10_outputByte : yX10_outputByte.cls ≠ "java/lang/invoke/MethodHandle" ∧ yX10_outputByte.cls ≠ "java/lang/invoke/VarHandle" ∧ (parseMethodDescriptor yX10_outputByte.desc).map (fun d => d.parameters.length) = some 1 := ⟨by decide +kernel, by decide +kernel, by decide +kernel⟩
def fX10_outputByte (σ : zS) (x0 : Nat) (x1 : Int32) : Option (zS × Int32) :=
  (zpI 9 0 σ x0 0).bind fun σ1 => (zgI 9 31 σ1 x0).bind fun v2 => (fX10_isIn σ1 x1.toInt64 0 (v2.toInt64 - 1)).bind fun c3 => (if c3.2 = 0 then some (c3.1, (-1)) else (zgR 9 30 c3.1 x0).bind fun v4 => (zaB c3.1 v4 x1).bind fun v5 => some (c3.1, v5))
set_option maxRecDepth 100000 in
set_option maxHeartbeats 4000000 in
theorem wfX10_outputByte (C : zC p s m args meth c cX10_outputByte RX10 2 D Ca B En) (hRm : zRm R 1 25 cells slots) (σ : zS) (x0 : Nat) (x1 : Int32) (τ : zS) (r : Int32) (hf : fX10_outputByte σ x0 x1 = some (τ, r)) (hq : ∀ (pc : Nat) (lv : List (Nat × Value)), decode cX10_outputByte pc = .ok (.ireturn, 1) → zW p l e R s m args below meth c cells slots Q D Ca B 2 τ N pc lv [.int r]) : zW p l e R s m args below meth c cells slots Q D Ca B 2 σ N 0 [(0, .ref x0), (1, .int x1)] [] := by
  unfold fX10_outputByte at hf
  refine z_aload_n C dX10_outputByte_0 rfl 0 rfl ?_
  refine z_iconst C 0 dX10_outputByte_1 (by decide) ?_
  obtain ⟨σ1, hσ1, hf⟩ := zbind hf
  refine gp_RX10_92 C hσ1 dX10_outputByte_2 ?_
  refine z_iload_n C dX10_outputByte_5 rfl 1 rfl ?_
  refine z_i2l C dX10_outputByte_6 ?_
  refine z_lconst C 0 dX10_outputByte_7 (by decide) ?_
  refine z_aload_n C dX10_outputByte_8 rfl 0 rfl ?_
  obtain ⟨v2, hv2, hf⟩ := zbind hf
  refine gf_RX10_455 C hv2 dX10_outputByte_9 ?_
  refine z_i2l C dX10_outputByte_12 ?_
  refine z_lconst C 1 dX10_outputByte_13 (by decide) ?_
  refine z_lsub C dX10_outputByte_14 ?_
  obtain ⟨c3, hc3, hf⟩ := zbind hf
  refine z_callSi (As := [.long x1.toInt64, .long 0, .long (v2.toInt64 - 1)]) (F0 := 1) (L0 := 25) C (mX10_isIn l D Ca B En C.2.2.2.2.2.2.2.1 σ1 N x1.toInt64 0 (v2.toInt64 - 1) _ hc3) hRm kw_1392 kw_14 kw_1390 kw_1391 hyX10_isIn (Nat.le_of_ble_eq_true rfl) (Nat.le_of_ble_eq_true rfl) rfl rfl (Nat.le_of_ble_eq_true rfl) dX10_outputByte_15 ?_
  refine z_if_eq C 30 dX10_outputByte_18 (by decide) (fun q6 => ?_) (fun q6 => ?_)
  · rw [if_pos q6] at hf
    refine z_iconst C (-1) dX10_outputByte_30 (by decide) ?_
    cases hf
    exact hq _ _ dX10_outputByte_31
  · rw [if_neg q6] at hf
    refine z_aload_n C dX10_outputByte_21 rfl 0 rfl ?_
    obtain ⟨v4, hv4, hf⟩ := zbind hf
    refine gf_RX10_57 C hv4 dX10_outputByte_22 ?_
    refine z_iload_n C dX10_outputByte_25 rfl 1 rfl ?_
    obtain ⟨v5, hv5, hf⟩ := zbind hf
    refine z_aB C hv5 dX10_outputByte_26 ?_
    refine z_goto C 31 dX10_outputByte_27 (by decide) ?_
    cases hf
    exact hq _ _ dX10_outputByte_31

theorem mX10_outputByte (l : Launch) (D : va_G) (Ca : Nat → ClassId) (B : Nat) (En : State → Prop) (hE : zEk B En) (σ : zS) (N : Nat) (x0 : Nat) (x1 : Int32) (X : zS × Int32) (hf : fX10_outputByte σ x0 x1 = some X) : zMi l D Ca B En yX10_outputByte cX10_outputByte 2 (Option.some Jvm.ClassFile.FieldType.int) 1 25 [.ref x0, .int x1] σ N X.1 X.2 :=
  zMet_i (own := RX10) hE (by decide +kernel) rfl (Nat.le_of_ble_eq_true rfl) (fun p e s m args below meth c C hr hRm => wfX10_outputByte C hRm σ x0 x1 X.1 X.2 hf (fun pc lv hd => zfin_i C hr hd))
end ZM
