/-! Methods: X1_recoverWith, X1_isQuiet, X1_thingsIn, X1_recordsTo, X1_resultsFrom, X1_handledInAll, X1_positionsInAll, X1_recordsAtRisk, X2_addByte, X2_addFourBytes, X2_byteAt, X3_at, X4_add, X4_addNumber, X7_clear, X5_kindAt, X5_advance, J2_length_9d52b, X5_refuse, X7_isName, X7_named, X7_setName, X5_readSemicolon, X7_makeRecords, X7_makeResults, X6_forget, X6_remember, X6_giveBack, X7_resultOf -/
section ZM
variable {p : Program} {l : Launch} {e : Env} {R : Room} {s : State} {m : MethodId} {args : Array Value} {below : List Frame} {meth : Method} {c : Code} {cells slots : Nat} {Q : State → Prop} {D : va_G} {Ca : Nat → ClassId} {B : Nat} {En : State → Prop} {N : Nat}
theorem dX1_recoverWith_0 : decode cX1_recoverWith 0 = .ok (.aload_n 0, 1) := by decide +kernel
theorem dX1_recoverWith_1 : decode cX1_recoverWith 1 = .ok (.getfield 41, 3) := by decide +kernel
theorem dX1_recoverWith_4 : decode cX1_recoverWith 4 = .ok (.invokevirtual 129, 3) := by decide +kernel
theorem dX1_recoverWith_7 : decode cX1_recoverWith 7 = .ok (.ifCond .eq 19, 3) := by decide +kernel
theorem dX1_recoverWith_10 : decode cX1_recoverWith 10 = .ok (.aload_n 0, 1) := by decide +kernel
theorem dX1_recoverWith_11 : decode cX1_recoverWith 11 = .ok (.getfield 41, 3) := by decide +kernel
theorem dX1_recoverWith_14 : decode cX1_recoverWith 14 = .ok (.aload_n 0, 1) := by decide +kernel
theorem dX1_recoverWith_15 : decode cX1_recoverWith 15 = .ok (.getfield 54, 3) := by decide +kernel
theorem dX1_recoverWith_18 : decode cX1_recoverWith 18 = .ok (.aload_n 0, 1) := by decide +kernel
theorem dX1_recoverWith_19 : decode cX1_recoverWith 19 = .ok (.getfield 70, 3) := by decide +kernel
theorem dX1_recoverWith_22 : decode cX1_recoverWith 22 = .ok (.iload_n 1, 1) := by decide +kernel
theorem dX1_recoverWith_23 : decode cX1_recoverWith 23 = .ok (.invokevirtual 290, 3) := by decide +kernel
theorem dX1_recoverWith_26 : decode cX1_recoverWith 26 = .ok (.aload_n 0, 1) := by decide +kernel
theorem dX1_recoverWith_27 : decode cX1_recoverWith 27 = .ok (.iload_n 1, 1) := by decide +kernel
theorem dX1_recoverWith_28 : decode cX1_recoverWith 28 = .ok (.putfield 70, 3) := by decide +kernel
theorem dX1_recoverWith_31 : decode cX1_recoverWith 31 = .ok (.aload_n 0, 1) := by decide +kernel
theorem dX1_recoverWith_32 : decode cX1_recoverWith 32 = .ok (.invokevirtual 116, 3) := by decide +kernel
theorem dX1_recoverWith_35 : decode cX1_recoverWith 35 = .ok (.return_, 1) := by decide +kernel
theorem hyX1_recoverWith : yX1_recoverWith.cls ≠ "java/lang/invoke/MethodHandle" ∧ yX1_recoverWith.cls ≠ "java/lang/invoke/VarHandle" ∧ (parseMethodDescriptor yX1_recoverWith.desc).map (fun d => d.parameters.length) = some 1 := ⟨by decide +kernel, by decide +kernel, by decide +kernel⟩
def jX1_recoverWith_26 (σ : zS) (x0 : Nat) (x1 : Int32)  : Option zS :=
  (zpI 1 0 σ x0 x1).bind fun σ3 => (zck 1 σ3 x0 (fX1_recover σ3 x0 )).bind fun c4 => some c4
set_option maxRecDepth 100000 in
set_option maxHeartbeats 4000000 in
theorem wjX1_recoverWith_26 (C : zC p s m args meth c cX1_recoverWith RX1 2 D Ca B En) (hRm : zRm R 4 129 cells slots) (σ : zS) (x0 : Nat) (x1 : Int32)  (τ : zS) (hf : jX1_recoverWith_26 σ x0 x1  = some τ) (hq : ∀ (pc : Nat) (lv : List (Nat × Value)), decode cX1_recoverWith pc = .ok (.return_, 1) → zW p l e R s m args below meth c cells slots Q D Ca B 2 τ N pc lv []) : zW p l e R s m args below meth c cells slots Q D Ca B 2 σ N 26 [(0, .ref x0), (1, .int x1)] [] := by
  unfold jX1_recoverWith_26 at hf
  refine z_aload_n C dX1_recoverWith_26 rfl 0 rfl ?_
  refine z_iload_n C dX1_recoverWith_27 rfl 1 rfl ?_
  obtain ⟨σ3, hσ3, hf⟩ := zbind hf
  refine gp_RX1_70 C hσ3 dX1_recoverWith_28 ?_
  refine z_aload_n C dX1_recoverWith_31 rfl 0 rfl ?_
  obtain ⟨c4, hc4, hf⟩ := zbind hf
  obtain ⟨kc4, hc4⟩ := zck_ok hc4
  refine z_callVv (As := []) (F0 := 4) (L0 := 129) C (mX1_recover l D Ca B En C.2.2.2.2.2.2.2.1 σ3 N x0  _ hc4) hRm kc4 rfl kw_310 kw_8 kw_307 kw_308 kw_309 hyX1_recover (Nat.le_of_ble_eq_true rfl) (Nat.le_of_ble_eq_true rfl) rfl rfl (Nat.le_of_ble_eq_true rfl) dX1_recoverWith_32 ?_
  cases hf
  exact hq _ _ dX1_recoverWith_35

def fX1_recoverWith (σ : zS) (x0 : Nat) (x1 : Int32) : Option zS :=
  (zgR 1 16 σ x0).bind fun v1 => (zck 0 σ v1 (fX0_exists σ v1 )).bind fun c2 => (if c2.2 = 0 then jX1_recoverWith_26 c2.1 x0 x1 else (zgR 1 16 c2.1 x0).bind fun v5 => (zgR 1 17 c2.1 x0).bind fun v6 => (zgI 1 0 c2.1 x0).bind fun v7 => (zck 0 c2.1 v5 (fX0_spread c2.1 v5 v6 v7 x1)).bind fun c8 => jX1_recoverWith_26 c8 x0 x1)
set_option maxRecDepth 100000 in
set_option maxHeartbeats 4000000 in
theorem wfX1_recoverWith (C : zC p s m args meth c cX1_recoverWith RX1 2 D Ca B En) (hRm : zRm R 4 129 cells slots) (σ : zS) (x0 : Nat) (x1 : Int32) (τ : zS) (hf : fX1_recoverWith σ x0 x1 = some τ) (hq : ∀ (pc : Nat) (lv : List (Nat × Value)), decode cX1_recoverWith pc = .ok (.return_, 1) → zW p l e R s m args below meth c cells slots Q D Ca B 2 τ N pc lv []) : zW p l e R s m args below meth c cells slots Q D Ca B 2 σ N 0 [(0, .ref x0), (1, .int x1)] [] := by
  unfold fX1_recoverWith at hf
  refine z_aload_n C dX1_recoverWith_0 rfl 0 rfl ?_
  obtain ⟨v1, hv1, hf⟩ := zbind hf
  refine gf_RX1_41 C hv1 dX1_recoverWith_1 ?_
  obtain ⟨c2, hc2, hf⟩ := zbind hf
  obtain ⟨kc2, hc2⟩ := zck_ok hc2
  refine z_callVi (As := []) (F0 := 4) (L0 := 129) C (mX0_exists l D Ca B En C.2.2.2.2.2.2.2.1 σ N v1  _ hc2) hRm kc2 rfl kw_318 kw_10 kw_315 kw_316 kw_317 hyX0_exists (Nat.le_of_ble_eq_true rfl) (Nat.le_of_ble_eq_true rfl) rfl rfl (Nat.le_of_ble_eq_true rfl) dX1_recoverWith_4 ?_
  refine z_if_eq C 26 dX1_recoverWith_7 (by decide) (fun q9 => ?_) (fun q9 => ?_)
  · rw [if_pos q9] at hf
    refine z_sub [0, 1] rfl ?_
    exact wjX1_recoverWith_26 C hRm _ _ _  _ hf hq
  · rw [if_neg q9] at hf
    refine z_aload_n C dX1_recoverWith_10 rfl 0 rfl ?_
    obtain ⟨v5, hv5, hf⟩ := zbind hf
    refine gf_RX1_41 C hv5 dX1_recoverWith_11 ?_
    refine z_aload_n C dX1_recoverWith_14 rfl 0 rfl ?_
    obtain ⟨v6, hv6, hf⟩ := zbind hf
    refine gf_RX1_54 C hv6 dX1_recoverWith_15 ?_
    refine z_aload_n C dX1_recoverWith_18 rfl 0 rfl ?_
    obtain ⟨v7, hv7, hf⟩ := zbind hf
    refine gf_RX1_70 C hv7 dX1_recoverWith_19 ?_
    refine z_iload_n C dX1_recoverWith_22 rfl 1 rfl ?_
    obtain ⟨c8, hc8, hf⟩ := zbind hf
    obtain ⟨kc8, hc8⟩ := zck_ok hc8
    refine z_callVv (As := [.ref v6, .int v7, .int x1]) (F0 := 4) (L0 := 129) C (mX0_spread l D Ca B En C.2.2.2.2.2.2.2.1 c2.1 N v5 v6 v7 x1 _ hc8) hRm kc8 rfl kw_1169 kw_10 kw_1166 kw_1167 kw_1168 hyX0_spread (Nat.le_of_ble_eq_true rfl) (Nat.le_of_ble_eq_true rfl) rfl rfl (Nat.le_of_ble_eq_true rfl) dX1_recoverWith_23 ?_
    refine z_sub [0, 1] rfl ?_
    exact wjX1_recoverWith_26 C hRm _ _ _  _ hf hq

theorem mX1_recoverWith (l : Launch) (D : va_G) (Ca : Nat → ClassId) (B : Nat) (En : State → Prop) (hE : zEk B En) (σ : zS) (N : Nat) (x0 : Nat) (x1 : Int32) (X : zS) (hf : fX1_recoverWith σ x0 x1 = some X) : zMv l D Ca B En yX1_recoverWith cX1_recoverWith 2 (Option.none : Option Jvm.ClassFile.FieldType) 4 129 [.ref x0, .int x1] σ N X () :=
  zMet_v (own := RX1) hE (by decide +kernel) rfl (Nat.le_of_ble_eq_true rfl) (fun p e s m args below meth c C hr hRm => wfX1_recoverWith C hRm σ x0 x1 X hf (fun pc lv hd => zfin_v (r := ()) C hr hd))
theorem dX1_isQuiet_0 : decode cX1_isQuiet 0 = .ok (.iconst 0, 1) := by decide +kernel
theorem dX1_isQuiet_1 : decode cX1_isQuiet 1 = .ok (.istore_n 1, 1) := by decide +kernel
theorem dX1_isQuiet_2 : decode cX1_isQuiet 2 = .ok (.iload_n 1, 1) := by decide +kernel
theorem dX1_isQuiet_3 : decode cX1_isQuiet 3 = .ok (.aload_n 0, 1) := by decide +kernel
theorem dX1_isQuiet_4 : decode cX1_isQuiet 4 = .ok (.getfield 54, 3) := by decide +kernel
theorem dX1_isQuiet_7 : decode cX1_isQuiet 7 = .ok (.getfield 140, 3) := by decide +kernel
theorem dX1_isQuiet_10 : decode cX1_isQuiet 10 = .ok (.if_icmp .ge 29, 3) := by decide +kernel
theorem dX1_isQuiet_13 : decode cX1_isQuiet 13 = .ok (.aload_n 0, 1) := by decide +kernel
theorem dX1_isQuiet_14 : decode cX1_isQuiet 14 = .ok (.getfield 15, 3) := by decide +kernel
theorem dX1_isQuiet_17 : decode cX1_isQuiet 17 = .ok (.iload_n 1, 1) := by decide +kernel
theorem dX1_isQuiet_18 : decode cX1_isQuiet 18 = .ok (.iaload, 1) := by decide +kernel
theorem dX1_isQuiet_19 : decode cX1_isQuiet 19 = .ok (.aload_n 0, 1) := by decide +kernel
theorem dX1_isQuiet_20 : decode cX1_isQuiet 20 = .ok (.getfield 54, 3) := by decide +kernel
theorem dX1_isQuiet_23 : decode cX1_isQuiet 23 = .ok (.getfield 197, 3) := by decide +kernel
theorem dX1_isQuiet_26 : decode cX1_isQuiet 26 = .ok (.iload_n 1, 1) := by decide +kernel
theorem dX1_isQuiet_27 : decode cX1_isQuiet 27 = .ok (.iaload, 1) := by decide +kernel
theorem dX1_isQuiet_28 : decode cX1_isQuiet 28 = .ok (.if_icmp .ge 5, 3) := by decide +kernel
theorem dX1_isQuiet_31 : decode cX1_isQuiet 31 = .ok (.iconst 0, 1) := by decide +kernel
theorem dX1_isQuiet_32 : decode cX1_isQuiet 32 = .ok (.ireturn, 1) := by decide +kernel
theorem dX1_isQuiet_33 : decode cX1_isQuiet 33 = .ok (.iinc 1 1, 3) := by decide +kernel
theorem dX1_isQuiet_36 : decode cX1_isQuiet 36 = .ok (.goto (-34), 3) := by decide +kernel
theorem dX1_isQuiet_39 : decode cX1_isQuiet 39 = .ok (.iconst 0, 1) := by decide +kernel
theorem dX1_isQuiet_40 : decode cX1_isQuiet 40 = .ok (.istore_n 1, 1) := by decide +kernel
theorem dX1_isQuiet_41 : decode cX1_isQuiet 41 = .ok (.iload_n 1, 1) := by decide +kernel
theorem dX1_isQuiet_42 : decode cX1_isQuiet 42 = .ok (.bipush 28, 2) := by decide +kernel
theorem dX1_isQuiet_44 : decode cX1_isQuiet 44 = .ok (.if_icmp .ge 22, 3) := by decide +kernel
theorem dX1_isQuiet_47 : decode cX1_isQuiet 47 = .ok (.aload_n 0, 1) := by decide +kernel
theorem dX1_isQuiet_48 : decode cX1_isQuiet 48 = .ok (.getfield 30, 3) := by decide +kernel
theorem dX1_isQuiet_51 : decode cX1_isQuiet 51 = .ok (.iload_n 1, 1) := by decide +kernel
theorem dX1_isQuiet_52 : decode cX1_isQuiet 52 = .ok (.invokevirtual 194, 3) := by decide +kernel
theorem dX1_isQuiet_55 : decode cX1_isQuiet 55 = .ok (.ifCond .le 5, 3) := by decide +kernel
theorem dX1_isQuiet_58 : decode cX1_isQuiet 58 = .ok (.iconst 0, 1) := by decide +kernel
theorem dX1_isQuiet_59 : decode cX1_isQuiet 59 = .ok (.ireturn, 1) := by decide +kernel
theorem dX1_isQuiet_60 : decode cX1_isQuiet 60 = .ok (.iinc 1 1, 3) := by decide +kernel
theorem dX1_isQuiet_63 : decode cX1_isQuiet 63 = .ok (.goto (-22), 3) := by decide +kernel
theorem dX1_isQuiet_66 : decode cX1_isQuiet 66 = .ok (.iconst 1, 1) := by decide +kernel
theorem dX1_isQuiet_67 : decode cX1_isQuiet 67 = .ok (.ireturn, 1) := by decide +kernel
theorem hyX1_isQuiet : yX1_isQuiet.cls ≠ "java/lang/invoke/MethodHandle" ∧ yX1_isQuiet.cls ≠ "java/lang/invoke/VarHandle" ∧ (parseMethodDescriptor yX1_isQuiet.desc).map (fun d => d.parameters.length) = some 0 := ⟨by decide +kernel, by decide +kernel, by decide +kernel⟩
def sX1_isQuiet_2b (x0 : Nat) (σ : zS) (u1 : Int32) : Option ((zS × Int32) ⊕ (zS ⊕ zS)) :=
  (zgR 1 17 σ x0).bind fun v1 => (zgI 7 0 σ v1).bind fun v2 => (if v2 ≤ u1 then some (.inr (.inr σ)) else (zgR 1 10 σ x0).bind fun v3 => (zaI σ v3 u1).bind fun v4 => (zgR 1 17 σ x0).bind fun v5 => (zgR 7 2 σ v5).bind fun v6 => (zaI σ v6 u1).bind fun v7 => (if v7 ≤ v4 then some (.inl (σ, u1 + 1)) else some (.inr (.inl σ))))
def sX1_isQuiet_2 (x0 : Nat) (z : (zS × Int32)) : Option ((zS × Int32) ⊕ (zS ⊕ zS)) := sX1_isQuiet_2b x0 z.1 z.2
set_option maxRecDepth 100000 in
set_option maxHeartbeats 4000000 in
theorem wsX1_isQuiet_2b (C : zC p s m args meth c cX1_isQuiet RX1 2 D Ca B En) (hRm : zRm R 2 41 cells slots) (x0 : Nat) (σ : zS) (u1 : Int32) (y : (zS × Int32) ⊕ (zS ⊕ zS)) (hf : sX1_isQuiet_2b x0 σ u1 = some y) (hk : (∀ z : (zS × Int32), y = .inl z → zW p l e R s m args below meth c cells slots Q D Ca B 2 z.1 N 2 [(0, .ref x0), (1, .int z.2)] []) ∧ (∀ z : zS, y = .inr (.inl z) → zW p l e R s m args below meth c cells slots Q D Ca B 2 z N 31 [] []) ∧ (∀ z : zS, y = .inr (.inr z) → zW p l e R s m args below meth c cells slots Q D Ca B 2 z N 39 [(0, .ref x0)] [])) : zW p l e R s m args below meth c cells slots Q D Ca B 2 σ N 2 [(0, .ref x0), (1, .int u1)] [] := by
  unfold sX1_isQuiet_2b at hf
  refine z_iload_n C dX1_isQuiet_2 rfl 1 rfl ?_
  refine z_aload_n C dX1_isQuiet_3 rfl 0 rfl ?_
  obtain ⟨v1, hv1, hf⟩ := zbind hf
  refine gf_RX1_54 C hv1 dX1_isQuiet_4 ?_
  obtain ⟨v2, hv2, hf⟩ := zbind hf
  refine gf_RX1_140 C hv2 dX1_isQuiet_7 ?_
  refine z_icmp_ge C 39 dX1_isQuiet_10 (by decide) (fun q9 => ?_) (fun q9 => ?_)
  · rw [if_pos q9] at hf
    cases hf
    refine z_sub [0] rfl ?_
    exact hk.2.2 _ rfl
  · rw [if_neg q9] at hf
    refine z_aload_n C dX1_isQuiet_13 rfl 0 rfl ?_
    obtain ⟨v3, hv3, hf⟩ := zbind hf
    refine gf_RX1_15 C hv3 dX1_isQuiet_14 ?_
    refine z_iload_n C dX1_isQuiet_17 rfl 1 rfl ?_
    obtain ⟨v4, hv4, hf⟩ := zbind hf
    refine z_aI C hv4 dX1_isQuiet_18 ?_
    refine z_aload_n C dX1_isQuiet_19 rfl 0 rfl ?_
    obtain ⟨v5, hv5, hf⟩ := zbind hf
    refine gf_RX1_54 C hv5 dX1_isQuiet_20 ?_
    obtain ⟨v6, hv6, hf⟩ := zbind hf
    refine gf_RX1_197 C hv6 dX1_isQuiet_23 ?_
    refine z_iload_n C dX1_isQuiet_26 rfl 1 rfl ?_
    obtain ⟨v7, hv7, hf⟩ := zbind hf
    refine z_aI C hv7 dX1_isQuiet_27 ?_
    refine z_icmp_ge C 33 dX1_isQuiet_28 (by decide) (fun q8 => ?_) (fun q8 => ?_)
    · rw [if_pos q8] at hf
      refine z_iinc (lv2 := [(1, .int (u1 + 1)), (0, .ref x0)]) C (u1 + 1) dX1_isQuiet_33 1 rfl rfl (by decide) rfl ?_
      refine z_goto C 2 dX1_isQuiet_36 (by decide) ?_
      cases hf
      refine z_sub [1, 0] rfl ?_
      exact hk.1 _ rfl
    · rw [if_neg q8] at hf
      cases hf
      refine z_sub [] rfl ?_
      exact hk.2.1 _ rfl

theorem wsX1_isQuiet_2 (C : zC p s m args meth c cX1_isQuiet RX1 2 D Ca B En) (hRm : zRm R 2 41 cells slots) (x0 : Nat) (n : Nat) (z : (zS × Int32)) (x : (zS ⊕ zS)) (hf : zloop (sX1_isQuiet_2 x0) n z = some x) (hk : (∀ o : zS, x = (.inl o) → zW p l e R s m args below meth c cells slots Q D Ca B 2 o N 31 [] []) ∧ (∀ o : zS, x = (.inr o) → zW p l e R s m args below meth c cells slots Q D Ca B 2 o N 39 [(0, .ref x0)] [])) : zW p l e R s m args below meth c cells slots Q D Ca B 2 z.1 N 2 [(0, .ref x0), (1, .int z.2)] [] := by
  refine zloop_W (P := fun z : (zS × Int32) => zW p l e R s m args below meth c cells slots Q D Ca B 2 z.1 N 2 [(0, .ref x0), (1, .int z.2)] []) (K := fun x : (zS ⊕ zS) => (∀ o : zS, x = (.inl o) → zW p l e R s m args below meth c cells slots Q D Ca B 2 o N 31 [] []) ∧ (∀ o : zS, x = (.inr o) → zW p l e R s m args below meth c cells slots Q D Ca B 2 o N 39 [(0, .ref x0)] [])) ?_ n z x hf hk
  intro z y hy h1 h2
  refine wsX1_isQuiet_2b C hRm x0 z.1 z.2 y hy ⟨fun z2 e => h1 z2 e, fun o e => (h2 _ e).1 o rfl, fun o e => (h2 _ e).2 o rfl⟩
def sX1_isQuiet_41b (x0 : Nat) (σ : zS) (u1 : Int32) : Option ((zS × Int32) ⊕ (zS ⊕ zS)) :=
  (if 28 ≤ u1 then some (.inr (.inr σ)) else (zgR 1 14 σ x0).bind fun v13 => (zck 3 σ v13 (fX3_sizeOf σ v13 u1)).bind fun c14 => (if c14.2 ≤ 0 then some (.inl (c14.1, u1 + 1)) else some (.inr (.inl c14.1))))
def sX1_isQuiet_41 (x0 : Nat) (z : (zS × Int32)) : Option ((zS × Int32) ⊕ (zS ⊕ zS)) := sX1_isQuiet_41b x0 z.1 z.2
set_option maxRecDepth 100000 in
set_option maxHeartbeats 4000000 in
theorem wsX1_isQuiet_41b (C : zC p s m args meth c cX1_isQuiet RX1 2 D Ca B En) (hRm : zRm R 2 41 cells slots) (x0 : Nat) (σ : zS) (u1 : Int32) (y : (zS × Int32) ⊕ (zS ⊕ zS)) (hf : sX1_isQuiet_41b x0 σ u1 = some y) (hk : (∀ z : (zS × Int32), y = .inl z → zW p l e R s m args below meth c cells slots Q D Ca B 2 z.1 N 41 [(0, .ref x0), (1, .int z.2)] []) ∧ (∀ z : zS, y = .inr (.inl z) → zW p l e R s m args below meth c cells slots Q D Ca B 2 z N 58 [] []) ∧ (∀ z : zS, y = .inr (.inr z) → zW p l e R s m args below meth c cells slots Q D Ca B 2 z N 66 [] [])) : zW p l e R s m args below meth c cells slots Q D Ca B 2 σ N 41 [(0, .ref x0), (1, .int u1)] [] := by
  unfold sX1_isQuiet_41b at hf
  refine z_iload_n C dX1_isQuiet_41 rfl 1 rfl ?_
  refine z_bipush C 28 dX1_isQuiet_42 (by decide) ?_
  refine z_icmp_ge C 66 dX1_isQuiet_44 (by decide) (fun q16 => ?_) (fun q16 => ?_)
  · rw [if_pos q16] at hf
    cases hf
    refine z_sub [] rfl ?_
    exact hk.2.2 _ rfl
  · rw [if_neg q16] at hf
    refine z_aload_n C dX1_isQuiet_47 rfl 0 rfl ?_
    obtain ⟨v13, hv13, hf⟩ := zbind hf
    refine gf_RX1_30 C hv13 dX1_isQuiet_48 ?_
    refine z_iload_n C dX1_isQuiet_51 rfl 1 rfl ?_
    obtain ⟨c14, hc14, hf⟩ := zbind hf
    obtain ⟨kc14, hc14⟩ := zck_ok hc14
    refine z_callVi (As := [.int u1]) (F0 := 2) (L0 := 41) C (mX3_sizeOf l D Ca B En C.2.2.2.2.2.2.2.1 σ N v13 u1 _ hc14) hRm kc14 rfl kw_342 kw_9 kw_339 kw_340 kw_341 hyX3_sizeOf (Nat.le_of_ble_eq_true rfl) (Nat.le_of_ble_eq_true rfl) rfl rfl (Nat.le_of_ble_eq_true rfl) dX1_isQuiet_52 ?_
    refine z_if_le C 60 dX1_isQuiet_55 (by decide) (fun q15 => ?_) (fun q15 => ?_)
    · rw [if_pos q15] at hf
      refine z_iinc (lv2 := [(1, .int (u1 + 1)), (0, .ref x0)]) C (u1 + 1) dX1_isQuiet_60 1 rfl rfl (by decide) rfl ?_
      refine z_goto C 41 dX1_isQuiet_63 (by decide) ?_
      cases hf
      refine z_sub [1, 0] rfl ?_
      exact hk.1 _ rfl
    · rw [if_neg q15] at hf
      cases hf
      refine z_sub [] rfl ?_
      exact hk.2.1 _ rfl

theorem wsX1_isQuiet_41 (C : zC p s m args meth c cX1_isQuiet RX1 2 D Ca B En) (hRm : zRm R 2 41 cells slots) (x0 : Nat) (n : Nat) (z : (zS × Int32)) (x : (zS ⊕ zS)) (hf : zloop (sX1_isQuiet_41 x0) n z = some x) (hk : (∀ o : zS, x = (.inl o) → zW p l e R s m args below meth c cells slots Q D Ca B 2 o N 58 [] []) ∧ (∀ o : zS, x = (.inr o) → zW p l e R s m args below meth c cells slots Q D Ca B 2 o N 66 [] [])) : zW p l e R s m args below meth c cells slots Q D Ca B 2 z.1 N 41 [(0, .ref x0), (1, .int z.2)] [] := by
  refine zloop_W (P := fun z : (zS × Int32) => zW p l e R s m args below meth c cells slots Q D Ca B 2 z.1 N 41 [(0, .ref x0), (1, .int z.2)] []) (K := fun x : (zS ⊕ zS) => (∀ o : zS, x = (.inl o) → zW p l e R s m args below meth c cells slots Q D Ca B 2 o N 58 [] []) ∧ (∀ o : zS, x = (.inr o) → zW p l e R s m args below meth c cells slots Q D Ca B 2 o N 66 [] [])) ?_ n z x hf hk
  intro z y hy h1 h2
  refine wsX1_isQuiet_41b C hRm x0 z.1 z.2 y hy ⟨fun z2 e => h1 z2 e, fun o e => (h2 _ e).1 o rfl, fun o e => (h2 _ e).2 o rfl⟩
def fX1_isQuiet (σ : zS) (x0 : Nat) : Option (zS × Int32) :=
  (zloop (sX1_isQuiet_2 x0) zfuel (σ, 0)).bind fun o10 => (match o10 with | (.inl z11) => zrZ z11 0 | (.inr z12) => (zloop (sX1_isQuiet_41 x0) zfuel (z12, 0)).bind fun o17 => (match o17 with | (.inl z18) => zrZ z18 0 | (.inr z19) => zrZ z19 1))
set_option maxRecDepth 100000 in
set_option maxHeartbeats 4000000 in
theorem wfX1_isQuiet (C : zC p s m args meth c cX1_isQuiet RX1 2 D Ca B En) (hRm : zRm R 2 41 cells slots) (σ : zS) (x0 : Nat) (τ : zS) (r : Int32) (hf : fX1_isQuiet σ x0 = some (τ, r)) (hq : ∀ (pc : Nat) (lv : List (Nat × Value)), (r = 0 ∨ r = 1) → decode cX1_isQuiet pc = .ok (.ireturn, 1) → zW p l e R s m args below meth c cells slots Q D Ca B 2 τ N pc lv [.int r]) : zW p l e R s m args below meth c cells slots Q D Ca B 2 σ N 0 [(0, .ref x0)] [] := by
  unfold fX1_isQuiet at hf
  refine z_iconst C 0 dX1_isQuiet_0 (by decide) ?_
  refine z_istore_n (lv2 := [(1, .int 0), (0, .ref x0)]) C dX1_isQuiet_1 rfl (by decide) rfl ?_
  obtain ⟨o10, ho10, hf⟩ := zbind hf
  refine z_sub [1, 0] rfl ?_
  refine wsX1_isQuiet_2 C hRm _ zfuel (σ, 0) o10 ho10 ⟨?_, ?_⟩
  · intro z11 e9
    subst e9
    dsimp only at hf
    refine z_iconst C 0 dX1_isQuiet_31 (by decide) ?_
    obtain ⟨e9, b9⟩ := zrZ_ok hf
    cases e9
    exact hq _ _ b9 dX1_isQuiet_32
  · intro z12 e9
    subst e9
    dsimp only at hf
    refine z_iconst C 0 dX1_isQuiet_39 (by decide) ?_
    refine z_istore_n (lv2 := [(1, .int 0), (0, .ref x0)]) C dX1_isQuiet_40 rfl (by decide) rfl ?_
    obtain ⟨o17, ho17, hf⟩ := zbind hf
    refine z_sub [1, 0] rfl ?_
    refine wsX1_isQuiet_41 C hRm _ zfuel (z12, 0) o17 ho17 ⟨?_, ?_⟩
    · intro z18 e9
      subst e9
      dsimp only at hf
      refine z_iconst C 0 dX1_isQuiet_58 (by decide) ?_
      obtain ⟨e9, b9⟩ := zrZ_ok hf
      cases e9
      exact hq _ _ b9 dX1_isQuiet_59
    · intro z19 e9
      subst e9
      dsimp only at hf
      refine z_iconst C 1 dX1_isQuiet_66 (by decide) ?_
      obtain ⟨e9, b9⟩ := zrZ_ok hf
      cases e9
      exact hq _ _ b9 dX1_isQuiet_67

theorem mX1_isQuiet (l : Launch) (D : va_G) (Ca : Nat → ClassId) (B : Nat) (En : State → Prop) (hE : zEk B En) (σ : zS) (N : Nat) (x0 : Nat) (X : zS × Int32) (hf : fX1_isQuiet σ x0 = some X) : zMi l D Ca B En yX1_isQuiet cX1_isQuiet 2 (Option.some Jvm.ClassFile.FieldType.boolean) 2 41 [.ref x0] σ N X.1 X.2 :=
  zMet_i (own := RX1) hE (by decide +kernel) rfl (Nat.le_of_ble_eq_true rfl) (fun p e s m args below meth c C hr hRm => wfX1_isQuiet C hRm σ x0 X.1 X.2 hf (fun pc lv hb hd => zfin_z C hb hr hd))
theorem dX1_thingsIn_0 : decode cX1_thingsIn 0 = .ok (.iload_n 2, 1) := by decide +kernel
theorem dX1_thingsIn_1 : decode cX1_thingsIn 1 = .ok (.ifCond .ne 12, 3) := by decide +kernel
theorem dX1_thingsIn_4 : decode cX1_thingsIn 4 = .ok (.aload_n 0, 1) := by decide +kernel
theorem dX1_thingsIn_5 : decode cX1_thingsIn 5 = .ok (.getfield 30, 3) := by decide +kernel
theorem dX1_thingsIn_8 : decode cX1_thingsIn 8 = .ok (.iload_n 1, 1) := by decide +kernel
theorem dX1_thingsIn_9 : decode cX1_thingsIn 9 = .ok (.invokevirtual 194, 3) := by decide +kernel
theorem dX1_thingsIn_12 : decode cX1_thingsIn 12 = .ok (.ireturn, 1) := by decide +kernel
theorem dX1_thingsIn_13 : decode cX1_thingsIn 13 = .ok (.iload_n 1, 1) := by decide +kernel
theorem dX1_thingsIn_14 : decode cX1_thingsIn 14 = .ok (.ifCond .lt 23, 3) := by decide +kernel
theorem dX1_thingsIn_17 : decode cX1_thingsIn 17 = .ok (.iload_n 1, 1) := by decide +kernel
theorem dX1_thingsIn_18 : decode cX1_thingsIn 18 = .ok (.bipush 24, 2) := by decide +kernel
theorem dX1_thingsIn_20 : decode cX1_thingsIn 20 = .ok (.if_icmp .ge 17, 3) := by decide +kernel
theorem dX1_thingsIn_23 : decode cX1_thingsIn 23 = .ok (.aload_n 0, 1) := by decide +kernel
theorem dX1_thingsIn_24 : decode cX1_thingsIn 24 = .ok (.getfield 47, 3) := by decide +kernel
theorem dX1_thingsIn_27 : decode cX1_thingsIn 27 = .ok (.iload_n 1, 1) := by decide +kernel
theorem dX1_thingsIn_28 : decode cX1_thingsIn 28 = .ok (.iaload, 1) := by decide +kernel
theorem dX1_thingsIn_29 : decode cX1_thingsIn 29 = .ok (.iconst (-1), 1) := by decide +kernel
theorem dX1_thingsIn_30 : decode cX1_thingsIn 30 = .ok (.if_icmp .eq 7, 3) := by decide +kernel
theorem dX1_thingsIn_33 : decode cX1_thingsIn 33 = .ok (.iconst 1, 1) := by decide +kernel
theorem dX1_thingsIn_34 : decode cX1_thingsIn 34 = .ok (.goto 4, 3) := by decide +kernel
theorem dX1_thingsIn_37 : decode cX1_thingsIn 37 = .ok (.iconst 0, 1) := by decide +kernel
theorem dX1_thingsIn_38 : decode cX1_thingsIn 38 = .ok (.ireturn, 1) := by decide +kernel
theorem hyX1_thingsIn : yX1_thingsIn.cls ≠ "java/lang/invoke/MethodHandle" ∧ yX1_thingsIn.cls ≠ "java/lang/invoke/VarHandle" ∧ (parseMethodDescriptor yX1_thingsIn.desc).map (fun d => d.parameters.length) = some 2 := ⟨by decide +kernel, by decide +kernel, by decide +kernel⟩
def fX1_thingsIn (σ : zS) (x0 : Nat) (x1 : Int32) (x2 : Int32) : Option (zS × Int32) :=
  (if x2 = 0 then (zgR 1 14 σ x0).bind fun v6 => (zck 3 σ v6 (fX3_sizeOf σ v6 x1)).bind fun c7 => some (c7.1, c7.2) else (if x1 < 0 then some (σ, 0) else (if 24 ≤ x1 then some (σ, 0) else (zgR 1 19 σ x0).bind fun v1 => (zaI σ v1 x1).bind fun v2 => (if v2 = ((-1)) then some (σ, 0) else some (σ, 1)))))
set_option maxRecDepth 100000 in
set_option maxHeartbeats 4000000 in
theorem wfX1_thingsIn (C : zC p s m args meth c cX1_thingsIn RX1 3 D Ca B En) (hRm : zRm R 2 41 cells slots) (σ : zS) (x0 : Nat) (x1 : Int32) (x2 : Int32) (τ : zS) (r : Int32) (hf : fX1_thingsIn σ x0 x1 x2 = some (τ, r)) (hq : ∀ (pc : Nat) (lv : List (Nat × Value)), decode cX1_thingsIn pc = .ok (.ireturn, 1) → zW p l e R s m args below meth c cells slots Q D Ca B 3 τ N pc lv [.int r]) : zW p l e R s m args below meth c cells slots Q D Ca B 3 σ N 0 [(0, .ref x0), (1, .int x1), (2, .int x2)] [] := by
  unfold fX1_thingsIn at hf
  refine z_iload_n C dX1_thingsIn_0 rfl 2 rfl ?_
  refine z_if_ne C 13 dX1_thingsIn_1 (by decide) (fun q8 => ?_) (fun q8 => ?_)
  · rw [if_neg q8] at hf
    refine z_iload_n C dX1_thingsIn_13 rfl 1 rfl ?_
    refine z_if_lt C 37 dX1_thingsIn_14 (by decide) (fun q5 => ?_) (fun q5 => ?_)
    · rw [if_pos q5] at hf
      refine z_iconst C 0 dX1_thingsIn_37 (by decide) ?_
      cases hf
      exact hq _ _ dX1_thingsIn_38
    · rw [if_neg q5] at hf
      refine z_iload_n C dX1_thingsIn_17 rfl 1 rfl ?_
      refine z_bipush C 24 dX1_thingsIn_18 (by decide) ?_
      refine z_icmp_ge C 37 dX1_thingsIn_20 (by decide) (fun q4 => ?_) (fun q4 => ?_)
      · rw [if_pos q4] at hf
        refine z_iconst C 0 dX1_thingsIn_37 (by decide) ?_
        cases hf
        exact hq _ _ dX1_thingsIn_38
      · rw [if_neg q4] at hf
        refine z_aload_n C dX1_thingsIn_23 rfl 0 rfl ?_
        obtain ⟨v1, hv1, hf⟩ := zbind hf
        refine gf_RX1_47 C hv1 dX1_thingsIn_24 ?_
        refine z_iload_n C dX1_thingsIn_27 rfl 1 rfl ?_
        obtain ⟨v2, hv2, hf⟩ := zbind hf
        refine z_aI C hv2 dX1_thingsIn_28 ?_
        refine z_iconst C (-1) dX1_thingsIn_29 (by decide) ?_
        refine z_icmp_eq C 37 dX1_thingsIn_30 (by decide) (fun q3 => ?_) (fun q3 => ?_)
        · rw [if_pos q3] at hf
          refine z_iconst C 0 dX1_thingsIn_37 (by decide) ?_
          cases hf
          exact hq _ _ dX1_thingsIn_38
        · rw [if_neg q3] at hf
          refine z_iconst C 1 dX1_thingsIn_33 (by decide) ?_
          refine z_goto C 38 dX1_thingsIn_34 (by decide) ?_
          cases hf
          exact hq _ _ dX1_thingsIn_38
  · rw [if_pos q8] at hf
    refine z_aload_n C dX1_thingsIn_4 rfl 0 rfl ?_
    obtain ⟨v6, hv6, hf⟩ := zbind hf
    refine gf_RX1_30 C hv6 dX1_thingsIn_5 ?_
    refine z_iload_n C dX1_thingsIn_8 rfl 1 rfl ?_
    obtain ⟨c7, hc7, hf⟩ := zbind hf
    obtain ⟨kc7, hc7⟩ := zck_ok hc7
    refine z_callVi (As := [.int x1]) (F0 := 2) (L0 := 41) C (mX3_sizeOf l D Ca B En C.2.2.2.2.2.2.2.1 σ N v6 x1 _ hc7) hRm kc7 rfl kw_342 kw_9 kw_339 kw_340 kw_341 hyX3_sizeOf (Nat.le_of_ble_eq_true rfl) (Nat.le_of_ble_eq_true rfl) rfl rfl (Nat.le_of_ble_eq_true rfl) dX1_thingsIn_9 ?_
    cases hf
    exact hq _ _ dX1_thingsIn_12

theorem mX1_thingsIn (l : Launch) (D : va_G) (Ca : Nat → ClassId) (B : Nat) (En : State → Prop) (hE : zEk B En) (σ : zS) (N : Nat) (x0 : Nat) (x1 : Int32) (x2 : Int32) (X : zS × Int32) (hf : fX1_thingsIn σ x0 x1 x2 = some X) : zMi l D Ca B En yX1_thingsIn cX1_thingsIn 3 (Option.some Jvm.ClassFile.FieldType.int) 2 41 [.ref x0, .int x1, .int x2] σ N X.1 X.2 :=
  zMet_i (own := RX1) hE (by decide +kernel) rfl (Nat.le_of_ble_eq_true rfl) (fun p e s m args below meth c C hr hRm => wfX1_thingsIn C hRm σ x0 x1 x2 X.1 X.2 hf (fun pc lv hd => zfin_i C hr hd))
theorem dX1_recordsTo_0 : decode cX1_recordsTo 0 = .ok (.iconst 0, 1) := by decide +kernel
theorem dX1_recordsTo_1 : decode cX1_recordsTo 1 = .ok (.istore_n 2, 1) := by decide +kernel
theorem dX1_recordsTo_2 : decode cX1_recordsTo 2 = .ok (.iconst 0, 1) := by decide +kernel
theorem dX1_recordsTo_3 : decode cX1_recordsTo 3 = .ok (.istore_n 3, 1) := by decide +kernel
theorem dX1_recordsTo_4 : decode cX1_recordsTo 4 = .ok (.iload_n 3, 1) := by decide +kernel
theorem dX1_recordsTo_5 : decode cX1_recordsTo 5 = .ok (.aload_n 0, 1) := by decide +kernel
theorem dX1_recordsTo_6 : decode cX1_recordsTo 6 = .ok (.getfield 54, 3) := by decide +kernel
theorem dX1_recordsTo_9 : decode cX1_recordsTo 9 = .ok (.getfield 140, 3) := by decide +kernel
theorem dX1_recordsTo_12 : decode cX1_recordsTo 12 = .ok (.if_icmp .ge 24, 3) := by decide +kernel
theorem dX1_recordsTo_15 : decode cX1_recordsTo 15 = .ok (.iload_n 2, 1) := by decide +kernel
theorem dX1_recordsTo_16 : decode cX1_recordsTo 16 = .ok (.aload_n 0, 1) := by decide +kernel
theorem dX1_recordsTo_17 : decode cX1_recordsTo 17 = .ok (.getfield 30, 3) := by decide +kernel
theorem dX1_recordsTo_20 : decode cX1_recordsTo 20 = .ok (.iload_n 1, 1) := by decide +kernel
theorem dX1_recordsTo_21 : decode cX1_recordsTo 21 = .ok (.iload_n 3, 1) := by decide +kernel
theorem dX1_recordsTo_22 : decode cX1_recordsTo 22 = .ok (.invokestatic 190, 3) := by decide +kernel
theorem dX1_recordsTo_25 : decode cX1_recordsTo 25 = .ok (.invokevirtual 194, 3) := by decide +kernel
theorem dX1_recordsTo_28 : decode cX1_recordsTo 28 = .ok (.iadd, 1) := by decide +kernel
theorem dX1_recordsTo_29 : decode cX1_recordsTo 29 = .ok (.istore_n 2, 1) := by decide +kernel
theorem dX1_recordsTo_30 : decode cX1_recordsTo 30 = .ok (.iinc 3 1, 3) := by decide +kernel
theorem dX1_recordsTo_33 : decode cX1_recordsTo 33 = .ok (.goto (-29), 3) := by decide +kernel
theorem dX1_recordsTo_36 : decode cX1_recordsTo 36 = .ok (.iload_n 2, 1) := by decide +kernel
theorem dX1_recordsTo_37 : decode cX1_recordsTo 37 = .ok (.ireturn, 1) := by decide +kernel
theorem hyX1_recordsTo : yX1_recordsTo.cls ≠ "java/lang/invoke/MethodHandle" ∧ yX1_recordsTo.cls ≠ "java/lang/invoke/VarHandle" ∧ (parseMethodDescriptor yX1_recordsTo.desc).map (fun d => d.parameters.length) = some 1 := ⟨by decide +kernel, by decide +kernel, by decide +kernel⟩
def sX1_recordsTo_4b (x0 : Nat) (x1 : Int32) (σ : zS) (u2 : Int32) (u3 : Int32) : Option ((zS × Int32 × Int32) ⊕ (zS × Int32)) :=
  (zgR 1 17 σ x0).bind fun v1 => (zgI 7 0 σ v1).bind fun v2 => (if v2 ≤ u3 then some (.inr (σ, u2)) else (zgR 1 14 σ x0).bind fun v3 => (fX9_channel σ x1 u3).bind fun c4 => (zck 3 c4.1 v3 (fX3_sizeOf c4.1 v3 c4.2)).bind fun c5 => some (.inl (c5.1, u2 + c5.2, u3 + 1)))
def sX1_recordsTo_4 (x0 : Nat) (x1 : Int32) (z : (zS × Int32 × Int32)) : Option ((zS × Int32 × Int32) ⊕ (zS × Int32)) := sX1_recordsTo_4b x0 x1 z.1 z.2.1 z.2.2
set_option maxRecDepth 100000 in
set_option maxHeartbeats 4000000 in
theorem wsX1_recordsTo_4b (C : zC p s m args meth c cX1_recordsTo RX1 4 D Ca B En) (hRm : zRm R 2 41 cells slots) (x0 : Nat) (x1 : Int32) (σ : zS) (u2 : Int32) (u3 : Int32) (y : (zS × Int32 × Int32) ⊕ (zS × Int32)) (hf : sX1_recordsTo_4b x0 x1 σ u2 u3 = some y) (hk : (∀ z : (zS × Int32 × Int32), y = .inl z → zW p l e R s m args below meth c cells slots Q D Ca B 4 z.1 N 4 [(0, .ref x0), (1, .int x1), (2, .int z.2.1), (3, .int z.2.2)] []) ∧ (∀ z : (zS × Int32), y = .inr z → zW p l e R s m args below meth c cells slots Q D Ca B 4 z.1 N 36 [(2, .int z.2)] [])) : zW p l e R s m args below meth c cells slots Q D Ca B 4 σ N 4 [(0, .ref x0), (1, .int x1), (2, .int u2), (3, .int u3)] [] := by
  unfold sX1_recordsTo_4b at hf
  refine z_iload_n C dX1_recordsTo_4 rfl 3 rfl ?_
  refine z_aload_n C dX1_recordsTo_5 rfl 0 rfl ?_
  obtain ⟨v1, hv1, hf⟩ := zbind hf
  refine gf_RX1_54 C hv1 dX1_recordsTo_6 ?_
  obtain ⟨v2, hv2, hf⟩ := zbind hf
  refine gf_RX1_140 C hv2 dX1_recordsTo_9 ?_
  refine z_icmp_ge C 36 dX1_recordsTo_12 (by decide) (fun q6 => ?_) (fun q6 => ?_)
  · rw [if_pos q6] at hf
    cases hf
    refine z_sub [2] rfl ?_
    exact hk.2 _ rfl
  · rw [if_neg q6] at hf
    refine z_iload_n C dX1_recordsTo_15 rfl 2 rfl ?_
    refine z_aload_n C dX1_recordsTo_16 rfl 0 rfl ?_
    obtain ⟨v3, hv3, hf⟩ := zbind hf
    refine gf_RX1_30 C hv3 dX1_recordsTo_17 ?_
    refine z_iload_n C dX1_recordsTo_20 rfl 1 rfl ?_
    refine z_iload_n C dX1_recordsTo_21 rfl 3 rfl ?_
    obtain ⟨c4, hc4, hf⟩ := zbind hf
    refine z_callSNi (host := "BarrierFlow") (As := [.int x1, .int u3]) (F0 := 2) (L0 := 41) C (mX9_channel l D Ca B En C.2.2.2.2.2.2.2.1 σ N x1 u3 _ hc4) hRm kw_686 kw_1 (by decide) kw_685 hyX9_channel (Nat.le_of_ble_eq_true rfl) (Nat.le_of_ble_eq_true rfl) rfl rfl (Nat.le_of_ble_eq_true rfl) dX1_recordsTo_22 ?_
    obtain ⟨c5, hc5, hf⟩ := zbind hf
    obtain ⟨kc5, hc5⟩ := zck_ok hc5
    refine z_callVi (As := [.int c4.2]) (F0 := 2) (L0 := 41) C (mX3_sizeOf l D Ca B En C.2.2.2.2.2.2.2.1 c4.1 N v3 c4.2 _ hc5) hRm kc5 rfl kw_342 kw_9 kw_339 kw_340 kw_341 hyX3_sizeOf (Nat.le_of_ble_eq_true rfl) (Nat.le_of_ble_eq_true rfl) rfl rfl (Nat.le_of_ble_eq_true rfl) dX1_recordsTo_25 ?_
    refine z_iadd C dX1_recordsTo_28 ?_
    refine z_istore_n (lv2 := [(2, .int (u2 + c5.2)), (0, .ref x0), (1, .int x1), (3, .int u3)]) C dX1_recordsTo_29 rfl (by decide) rfl ?_
    refine z_iinc (lv2 := [(3, .int (u3 + 1)), (2, .int (u2 + c5.2)), (0, .ref x0), (1, .int x1)]) C (u3 + 1) dX1_recordsTo_30 3 rfl rfl (by decide) rfl ?_
    refine z_goto C 4 dX1_recordsTo_33 (by decide) ?_
    cases hf
    refine z_sub [2, 3, 1, 0] rfl ?_
    exact hk.1 _ rfl

theorem wsX1_recordsTo_4 (C : zC p s m args meth c cX1_recordsTo RX1 4 D Ca B En) (hRm : zRm R 2 41 cells slots) (x0 : Nat) (x1 : Int32) (n : Nat) (z : (zS × Int32 × Int32)) (x : (zS × Int32)) (hf : zloop (sX1_recordsTo_4 x0 x1) n z = some x) (hk : (∀ o : (zS × Int32), x = o → zW p l e R s m args below meth c cells slots Q D Ca B 4 o.1 N 36 [(2, .int o.2)] [])) : zW p l e R s m args below meth c cells slots Q D Ca B 4 z.1 N 4 [(0, .ref x0), (1, .int x1), (2, .int z.2.1), (3, .int z.2.2)] [] := by
  refine zloop_W (P := fun z : (zS × Int32 × Int32) => zW p l e R s m args below meth c cells slots Q D Ca B 4 z.1 N 4 [(0, .ref x0), (1, .int x1), (2, .int z.2.1), (3, .int z.2.2)] []) (K := fun x : (zS × Int32) => (∀ o : (zS × Int32), x = o → zW p l e R s m args below meth c cells slots Q D Ca B 4 o.1 N 36 [(2, .int o.2)] [])) ?_ n z x hf hk
  intro z y hy h1 h2
  refine wsX1_recordsTo_4b C hRm x0 x1 z.1 z.2.1 z.2.2 y hy ⟨fun z2 e => h1 z2 e, fun o e => (h2 _ e) o rfl⟩
def fX1_recordsTo (σ : zS) (x0 : Nat) (x1 : Int32) : Option (zS × Int32) :=
  (zloop (sX1_recordsTo_4 x0 x1) zfuel (σ, 0, 0)).bind fun o7 => some (o7.1, o7.2)
set_option maxRecDepth 100000 in
set_option maxHeartbeats 4000000 in
theorem wfX1_recordsTo (C : zC p s m args meth c cX1_recordsTo RX1 4 D Ca B En) (hRm : zRm R 2 41 cells slots) (σ : zS) (x0 : Nat) (x1 : Int32) (τ : zS) (r : Int32) (hf : fX1_recordsTo σ x0 x1 = some (τ, r)) (hq : ∀ (pc : Nat) (lv : List (Nat × Value)), decode cX1_recordsTo pc = .ok (.ireturn, 1) → zW p l e R s m args below meth c cells slots Q D Ca B 4 τ N pc lv [.int r]) : zW p l e R s m args below meth c cells slots Q D Ca B 4 σ N 0 [(0, .ref x0), (1, .int x1)] [] := by
  unfold fX1_recordsTo at hf
  refine z_iconst C 0 dX1_recordsTo_0 (by decide) ?_
  refine z_istore_n (lv2 := [(2, .int 0), (0, .ref x0), (1, .int x1)]) C dX1_recordsTo_1 rfl (by decide) rfl ?_
  refine z_iconst C 0 dX1_recordsTo_2 (by decide) ?_
  refine z_istore_n (lv2 := [(3, .int 0), (2, .int 0), (0, .ref x0), (1, .int x1)]) C dX1_recordsTo_3 rfl (by decide) rfl ?_
  obtain ⟨o7, ho7, hf⟩ := zbind hf
  refine z_sub [2, 3, 1, 0] rfl ?_
  refine wsX1_recordsTo_4 C hRm _ _ zfuel (σ, 0, 0) o7 ho7 ?_
  intro z9 e9
  subst e9
  refine z_iload_n C dX1_recordsTo_36 rfl 0 rfl ?_
  cases hf
  exact hq _ _ dX1_recordsTo_37

theorem mX1_recordsTo (l : Launch) (D : va_G) (Ca : Nat → ClassId) (B : Nat) (En : State → Prop) (hE : zEk B En) (σ : zS) (N : Nat) (x0 : Nat) (x1 : Int32) (X : zS × Int32) (hf : fX1_recordsTo σ x0 x1 = some X) : zMi l D Ca B En yX1_recordsTo cX1_recordsTo 4 (Option.some Jvm.ClassFile.FieldType.int) 2 41 [.ref x0, .int x1] σ N X.1 X.2 :=
  zMet_i (own := RX1) hE (by decide +kernel) rfl (Nat.le_of_ble_eq_true rfl) (fun p e s m args below meth c C hr hRm => wfX1_recordsTo C hRm σ x0 x1 X.1 X.2 hf (fun pc lv hd => zfin_i C hr hd))
theorem dX1_resultsFrom_0 : decode cX1_resultsFrom 0 = .ok (.iconst 0, 1) := by decide +kernel
theorem dX1_resultsFrom_1 : decode cX1_resultsFrom 1 = .ok (.istore_n 2, 1) := by decide +kernel
theorem dX1_resultsFrom_2 : decode cX1_resultsFrom 2 = .ok (.iconst 0, 1) := by decide +kernel
theorem dX1_resultsFrom_3 : decode cX1_resultsFrom 3 = .ok (.istore_n 3, 1) := by decide +kernel
theorem dX1_resultsFrom_4 : decode cX1_resultsFrom 4 = .ok (.iload_n 3, 1) := by decide +kernel
theorem dX1_resultsFrom_5 : decode cX1_resultsFrom 5 = .ok (.aload_n 0, 1) := by decide +kernel
theorem dX1_resultsFrom_6 : decode cX1_resultsFrom 6 = .ok (.getfield 54, 3) := by decide +kernel
theorem dX1_resultsFrom_9 : decode cX1_resultsFrom 9 = .ok (.getfield 161, 3) := by decide +kernel
theorem dX1_resultsFrom_12 : decode cX1_resultsFrom 12 = .ok (.if_icmp .ge 26, 3) := by decide +kernel
theorem dX1_resultsFrom_15 : decode cX1_resultsFrom 15 = .ok (.iload_n 2, 1) := by decide +kernel
theorem dX1_resultsFrom_16 : decode cX1_resultsFrom 16 = .ok (.aload_n 0, 1) := by decide +kernel
theorem dX1_resultsFrom_17 : decode cX1_resultsFrom 17 = .ok (.getfield 30, 3) := by decide +kernel
theorem dX1_resultsFrom_20 : decode cX1_resultsFrom 20 = .ok (.iconst 4, 1) := by decide +kernel
theorem dX1_resultsFrom_21 : decode cX1_resultsFrom 21 = .ok (.iload_n 3, 1) := by decide +kernel
theorem dX1_resultsFrom_22 : decode cX1_resultsFrom 22 = .ok (.iadd, 1) := by decide +kernel
theorem dX1_resultsFrom_23 : decode cX1_resultsFrom 23 = .ok (.iload_n 1, 1) := by decide +kernel
theorem dX1_resultsFrom_24 : decode cX1_resultsFrom 24 = .ok (.invokestatic 190, 3) := by decide +kernel
theorem dX1_resultsFrom_27 : decode cX1_resultsFrom 27 = .ok (.invokevirtual 194, 3) := by decide +kernel
theorem dX1_resultsFrom_30 : decode cX1_resultsFrom 30 = .ok (.iadd, 1) := by decide +kernel
theorem dX1_resultsFrom_31 : decode cX1_resultsFrom 31 = .ok (.istore_n 2, 1) := by decide +kernel
theorem dX1_resultsFrom_32 : decode cX1_resultsFrom 32 = .ok (.iinc 3 1, 3) := by decide +kernel
theorem dX1_resultsFrom_35 : decode cX1_resultsFrom 35 = .ok (.goto (-31), 3) := by decide +kernel
theorem dX1_resultsFrom_38 : decode cX1_resultsFrom 38 = .ok (.iload_n 2, 1) := by decide +kernel
theorem dX1_resultsFrom_39 : decode cX1_resultsFrom 39 = .ok (.ireturn, 1) := by decide +kernel
theorem hyX1_resultsFrom : yX1_resultsFrom.cls ≠ "java/lang/invoke/MethodHandle" ∧ yX1_resultsFrom.cls ≠ "java/lang/invoke/VarHandle" ∧ (parseMethodDescriptor yX1_resultsFrom.desc).map (fun d => d.parameters.length) = some 1 := ⟨by decide +kernel, by decide +kernel, by decide +kernel⟩
def sX1_resultsFrom_4b (x0 : Nat) (x1 : Int32) (σ : zS) (u2 : Int32) (u3 : Int32) : Option ((zS × Int32 × Int32) ⊕ (zS × Int32)) :=
  (zgR 1 17 σ x0).bind fun v1 => (zgI 7 1 σ v1).bind fun v2 => (if v2 ≤ u3 then some (.inr (σ, u2)) else (zgR 1 14 σ x0).bind fun v3 => (fX9_channel σ (4 + u3) x1).bind fun c4 => (zck 3 c4.1 v3 (fX3_sizeOf c4.1 v3 c4.2)).bind fun c5 => some (.inl (c5.1, u2 + c5.2, u3 + 1)))
def sX1_resultsFrom_4 (x0 : Nat) (x1 : Int32) (z : (zS × Int32 × Int32)) : Option ((zS × Int32 × Int32) ⊕ (zS × Int32)) := sX1_resultsFrom_4b x0 x1 z.1 z.2.1 z.2.2
set_option maxRecDepth 100000 in
set_option maxHeartbeats 4000000 in
theorem wsX1_resultsFrom_4b (C : zC p s m args meth c cX1_resultsFrom RX1 4 D Ca B En) (hRm : zRm R 2 41 cells slots) (x0 : Nat) (x1 : Int32) (σ : zS) (u2 : Int32) (u3 : Int32) (y : (zS × Int32 × Int32) ⊕ (zS × Int32)) (hf : sX1_resultsFrom_4b x0 x1 σ u2 u3 = some y) (hk : (∀ z : (zS × Int32 × Int32), y = .inl z → zW p l e R s m args below meth c cells slots Q D Ca B 4 z.1 N 4 [(0, .ref x0), (1, .int x1), (2, .int z.2.1), (3, .int z.2.2)] []) ∧ (∀ z : (zS × Int32), y = .inr z → zW p l e R s m args below meth c cells slots Q D Ca B 4 z.1 N 38 [(2, .int z.2)] [])) : zW p l e R s m args below meth c cells slots Q D Ca B 4 σ N 4 [(0, .ref x0), (1, .int x1), (2, .int u2), (3, .int u3)] [] := by
  unfold sX1_resultsFrom_4b at hf
  refine z_iload_n C dX1_resultsFrom_4 rfl 3 rfl ?_
  refine z_aload_n C dX1_resultsFrom_5 rfl 0 rfl ?_
  obtain ⟨v1, hv1, hf⟩ := zbind hf
  refine gf_RX1_54 C hv1 dX1_resultsFrom_6 ?_
  obtain ⟨v2, hv2, hf⟩ := zbind hf
  refine gf_RX1_161 C hv2 dX1_resultsFrom_9 ?_
  refine z_icmp_ge C 38 dX1_resultsFrom_12 (by decide) (fun q6 => ?_) (fun q6 => ?_)
  · rw [if_pos q6] at hf
    cases hf
    refine z_sub [2] rfl ?_
    exact hk.2 _ rfl
  · rw [if_neg q6] at hf
    refine z_iload_n C dX1_resultsFrom_15 rfl 2 rfl ?_
    refine z_aload_n C dX1_resultsFrom_16 rfl 0 rfl ?_
    obtain ⟨v3, hv3, hf⟩ := zbind hf
    refine gf_RX1_30 C hv3 dX1_resultsFrom_17 ?_
    refine z_iconst C 4 dX1_resultsFrom_20 (by decide) ?_
    refine z_iload_n C dX1_resultsFrom_21 rfl 3 rfl ?_
    refine z_iadd C dX1_resultsFrom_22 ?_
    refine z_iload_n C dX1_resultsFrom_23 rfl 1 rfl ?_
    obtain ⟨c4, hc4, hf⟩ := zbind hf
    refine z_callSNi (host := "BarrierFlow") (As := [.int (4 + u3), .int x1]) (F0 := 2) (L0 := 41) C (mX9_channel l D Ca B En C.2.2.2.2.2.2.2.1 σ N (4 + u3) x1 _ hc4) hRm kw_686 kw_1 (by decide) kw_685 hyX9_channel (Nat.le_of_ble_eq_true rfl) (Nat.le_of_ble_eq_true rfl) rfl rfl (Nat.le_of_ble_eq_true rfl) dX1_resultsFrom_24 ?_
    obtain ⟨c5, hc5, hf⟩ := zbind hf
    obtain ⟨kc5, hc5⟩ := zck_ok hc5
    refine z_callVi (As := [.int c4.2]) (F0 := 2) (L0 := 41) C (mX3_sizeOf l D Ca B En C.2.2.2.2.2.2.2.1 c4.1 N v3 c4.2 _ hc5) hRm kc5 rfl kw_342 kw_9 kw_339 kw_340 kw_341 hyX3_sizeOf (Nat.le_of_ble_eq_true rfl) (Nat.le_of_ble_eq_true rfl) rfl rfl (Nat.le_of_ble_eq_true rfl) dX1_resultsFrom_27 ?_
    refine z_iadd C dX1_resultsFrom_30 ?_
    refine z_istore_n (lv2 := [(2, .int (u2 + c5.2)), (0, .ref x0), (1, .int x1), (3, .int u3)]) C dX1_resultsFrom_31 rfl (by decide) rfl ?_
    refine z_iinc (lv2 := [(3, .int (u3 + 1)), (2, .int (u2 + c5.2)), (0, .ref x0), (1, .int x1)]) C (u3 + 1) dX1_resultsFrom_32 3 rfl rfl (by decide) rfl ?_
    refine z_goto C 4 dX1_resultsFrom_35 (by decide) ?_
    cases hf
    refine z_sub [2, 3, 1, 0] rfl ?_
    exact hk.1 _ rfl

theorem wsX1_resultsFrom_4 (C : zC p s m args meth c cX1_resultsFrom RX1 4 D Ca B En) (hRm : zRm R 2 41 cells slots) (x0 : Nat) (x1 : Int32) (n : Nat) (z : (zS × Int32 × Int32)) (x : (zS × Int32)) (hf : zloop (sX1_resultsFrom_4 x0 x1) n z = some x) (hk : (∀ o : (zS × Int32), x = o → zW p l e R s m args below meth c cells slots Q D Ca B 4 o.1 N 38 [(2, .int o.2)] [])) : zW p l e R s m args below meth c cells slots Q D Ca B 4 z.1 N 4 [(0, .ref x0), (1, .int x1), (2, .int z.2.1), (3, .int z.2.2)] [] := by
  refine zloop_W (P := fun z : (zS × Int32 × Int32) => zW p l e R s m args below meth c cells slots Q D Ca B 4 z.1 N 4 [(0, .ref x0), (1, .int x1), (2, .int z.2.1), (3, .int z.2.2)] []) (K := fun x : (zS × Int32) => (∀ o : (zS × Int32), x = o → zW p l e R s m args below meth c cells slots Q D Ca B 4 o.1 N 38 [(2, .int o.2)] [])) ?_ n z x hf hk
  intro z y hy h1 h2
  refine wsX1_resultsFrom_4b C hRm x0 x1 z.1 z.2.1 z.2.2 y hy ⟨fun z2 e => h1 z2 e, fun o e => (h2 _ e) o rfl⟩
def fX1_resultsFrom (σ : zS) (x0 : Nat) (x1 : Int32) : Option (zS × Int32) :=
  (zloop (sX1_resultsFrom_4 x0 x1) zfuel (σ, 0, 0)).bind fun o7 => some (o7.1, o7.2)
set_option maxRecDepth 100000 in
set_option maxHeartbeats 4000000 in
theorem wfX1_resultsFrom (C : zC p s m args meth c cX1_resultsFrom RX1 4 D Ca B En) (hRm : zRm R 2 41 cells slots) (σ : zS) (x0 : Nat) (x1 : Int32) (τ : zS) (r : Int32) (hf : fX1_resultsFrom σ x0 x1 = some (τ, r)) (hq : ∀ (pc : Nat) (lv : List (Nat × Value)), decode cX1_resultsFrom pc = .ok (.ireturn, 1) → zW p l e R s m args below meth c cells slots Q D Ca B 4 τ N pc lv [.int r]) : zW p l e R s m args below meth c cells slots Q D Ca B 4 σ N 0 [(0, .ref x0), (1, .int x1)] [] := by
  unfold fX1_resultsFrom at hf
  refine z_iconst C 0 dX1_resultsFrom_0 (by decide) ?_
  refine z_istore_n (lv2 := [(2, .int 0), (0, .ref x0), (1, .int x1)]) C dX1_resultsFrom_1 rfl (by decide) rfl ?_
  refine z_iconst C 0 dX1_resultsFrom_2 (by decide) ?_
  refine z_istore_n (lv2 := [(3, .int 0), (2, .int 0), (0, .ref x0), (1, .int x1)]) C dX1_resultsFrom_3 rfl (by decide) rfl ?_
  obtain ⟨o7, ho7, hf⟩ := zbind hf
  refine z_sub [2, 3, 1, 0] rfl ?_
  refine wsX1_resultsFrom_4 C hRm _ _ zfuel (σ, 0, 0) o7 ho7 ?_
  intro z9 e9
  subst e9
  refine z_iload_n C dX1_resultsFrom_38 rfl 0 rfl ?_
  cases hf
  exact hq _ _ dX1_resultsFrom_39

theorem mX1_resultsFrom (l : Launch) (D : va_G) (Ca : Nat → ClassId) (B : Nat) (En : State → Prop) (hE : zEk B En) (σ : zS) (N : Nat) (x0 : Nat) (x1 : Int32) (X : zS × Int32) (hf : fX1_resultsFrom σ x0 x1 = some X) : zMi l D Ca B En yX1_resultsFrom cX1_resultsFrom 4 (Option.some Jvm.ClassFile.FieldType.int) 2 41 [.ref x0, .int x1] σ N X.1 X.2 :=
  zMet_i (own := RX1) hE (by decide +kernel) rfl (Nat.le_of_ble_eq_true rfl) (fun p e s m args below meth c C hr hRm => wfX1_resultsFrom C hRm σ x0 x1 X.1 X.2 hf (fun pc lv hd => zfin_i C hr hd))
theorem dX1_handledInAll_0 : decode cX1_handledInAll 0 = .ok (.iconst 0, 1) := by decide +kernel
theorem dX1_handledInAll_1 : decode cX1_handledInAll 1 = .ok (.istore_n 1, 1) := by decide +kernel
theorem dX1_handledInAll_2 : decode cX1_handledInAll 2 = .ok (.iconst 0, 1) := by decide +kernel
theorem dX1_handledInAll_3 : decode cX1_handledInAll 3 = .ok (.istore_n 2, 1) := by decide +kernel
theorem dX1_handledInAll_4 : decode cX1_handledInAll 4 = .ok (.iload_n 2, 1) := by decide +kernel
theorem dX1_handledInAll_5 : decode cX1_handledInAll 5 = .ok (.aload_n 0, 1) := by decide +kernel
theorem dX1_handledInAll_6 : decode cX1_handledInAll 6 = .ok (.getfield 70, 3) := by decide +kernel
theorem dX1_handledInAll_9 : decode cX1_handledInAll 9 = .ok (.if_icmp .ge 18, 3) := by decide +kernel
theorem dX1_handledInAll_12 : decode cX1_handledInAll 12 = .ok (.iload_n 1, 1) := by decide +kernel
theorem dX1_handledInAll_13 : decode cX1_handledInAll 13 = .ok (.aload_n 0, 1) := by decide +kernel
theorem dX1_handledInAll_14 : decode cX1_handledInAll 14 = .ok (.getfield 21, 3) := by decide +kernel
theorem dX1_handledInAll_17 : decode cX1_handledInAll 17 = .ok (.iload_n 2, 1) := by decide +kernel
theorem dX1_handledInAll_18 : decode cX1_handledInAll 18 = .ok (.iaload, 1) := by decide +kernel
theorem dX1_handledInAll_19 : decode cX1_handledInAll 19 = .ok (.iadd, 1) := by decide +kernel
theorem dX1_handledInAll_20 : decode cX1_handledInAll 20 = .ok (.istore_n 1, 1) := by decide +kernel
theorem dX1_handledInAll_21 : decode cX1_handledInAll 21 = .ok (.iinc 2 1, 3) := by decide +kernel
theorem dX1_handledInAll_24 : decode cX1_handledInAll 24 = .ok (.goto (-20), 3) := by decide +kernel
theorem dX1_handledInAll_27 : decode cX1_handledInAll 27 = .ok (.iload_n 1, 1) := by decide +kernel
theorem dX1_handledInAll_28 : decode cX1_handledInAll 28 = .ok (.ireturn, 1) := by decide +kernel
theorem hyX1_handledInAll : yX1_handledInAll.cls ≠ "java/lang/invoke/MethodHandle" ∧ yX1_handledInAll.cls ≠ "java/lang/invoke/VarHandle" ∧ (parseMethodDescriptor yX1_handledInAll.desc).map (fun d => d.parameters.length) = some 0 := ⟨by decide +kernel, by decide +kernel, by decide +kernel⟩
def sX1_handledInAll_4b (x0 : Nat) (σ : zS) (u1 : Int32) (u2 : Int32) : Option ((zS × Int32 × Int32) ⊕ (zS × Int32)) :=
  (zgI 1 0 σ x0).bind fun v1 => (if v1 ≤ u2 then some (.inr (σ, u1)) else (zgR 1 12 σ x0).bind fun v2 => (zaI σ v2 u2).bind fun v3 => some (.inl (σ, u1 + v3, u2 + 1)))
def sX1_handledInAll_4 (x0 : Nat) (z : (zS × Int32 × Int32)) : Option ((zS × Int32 × Int32) ⊕ (zS × Int32)) := sX1_handledInAll_4b x0 z.1 z.2.1 z.2.2
set_option maxRecDepth 100000 in
set_option maxHeartbeats 4000000 in
theorem wsX1_handledInAll_4b (C : zC p s m args meth c cX1_handledInAll RX1 3 D Ca B En) (hRm : zRm R 0 0 cells slots) (x0 : Nat) (σ : zS) (u1 : Int32) (u2 : Int32) (y : (zS × Int32 × Int32) ⊕ (zS × Int32)) (hf : sX1_handledInAll_4b x0 σ u1 u2 = some y) (hk : (∀ z : (zS × Int32 × Int32), y = .inl z → zW p l e R s m args below meth c cells slots Q D Ca B 3 z.1 N 4 [(0, .ref x0), (1, .int z.2.1), (2, .int z.2.2)] []) ∧ (∀ z : (zS × Int32), y = .inr z → zW p l e R s m args below meth c cells slots Q D Ca B 3 z.1 N 27 [(1, .int z.2)] [])) : zW p l e R s m args below meth c cells slots Q D Ca B 3 σ N 4 [(0, .ref x0), (1, .int u1), (2, .int u2)] [] := by
  unfold sX1_handledInAll_4b at hf
  refine z_iload_n C dX1_handledInAll_4 rfl 2 rfl ?_
  refine z_aload_n C dX1_handledInAll_5 rfl 0 rfl ?_
  obtain ⟨v1, hv1, hf⟩ := zbind hf
  refine gf_RX1_70 C hv1 dX1_handledInAll_6 ?_
  refine z_icmp_ge C 27 dX1_handledInAll_9 (by decide) (fun q4 => ?_) (fun q4 => ?_)
  · rw [if_pos q4] at hf
    cases hf
    refine z_sub [1] rfl ?_
    exact hk.2 _ rfl
  · rw [if_neg q4] at hf
    refine z_iload_n C dX1_handledInAll_12 rfl 1 rfl ?_
    refine z_aload_n C dX1_handledInAll_13 rfl 0 rfl ?_
    obtain ⟨v2, hv2, hf⟩ := zbind hf
    refine gf_RX1_21 C hv2 dX1_handledInAll_14 ?_
    refine z_iload_n C dX1_handledInAll_17 rfl 2 rfl ?_
    obtain ⟨v3, hv3, hf⟩ := zbind hf
    refine z_aI C hv3 dX1_handledInAll_18 ?_
    refine z_iadd C dX1_handledInAll_19 ?_
    refine z_istore_n (lv2 := [(1, .int (u1 + v3)), (0, .ref x0), (2, .int u2)]) C dX1_handledInAll_20 rfl (by decide) rfl ?_
    refine z_iinc (lv2 := [(2, .int (u2 + 1)), (1, .int (u1 + v3)), (0, .ref x0)]) C (u2 + 1) dX1_handledInAll_21 2 rfl rfl (by decide) rfl ?_
    refine z_goto C 4 dX1_handledInAll_24 (by decide) ?_
    cases hf
    refine z_sub [2, 1, 0] rfl ?_
    exact hk.1 _ rfl

theorem wsX1_handledInAll_4 (C : zC p s m args meth c cX1_handledInAll RX1 3 D Ca B En) (hRm : zRm R 0 0 cells slots) (x0 : Nat) (n : Nat) (z : (zS × Int32 × Int32)) (x : (zS × Int32)) (hf : zloop (sX1_handledInAll_4 x0) n z = some x) (hk : (∀ o : (zS × Int32), x = o → zW p l e R s m args below meth c cells slots Q D Ca B 3 o.1 N 27 [(1, .int o.2)] [])) : zW p l e R s m args below meth c cells slots Q D Ca B 3 z.1 N 4 [(0, .ref x0), (1, .int z.2.1), (2, .int z.2.2)] [] := by
  refine zloop_W (P := fun z : (zS × Int32 × Int32) => zW p l e R s m args below meth c cells slots Q D Ca B 3 z.1 N 4 [(0, .ref x0), (1, .int z.2.1), (2, .int z.2.2)] []) (K := fun x : (zS × Int32) => (∀ o : (zS × Int32), x = o → zW p l e R s m args below meth c cells slots Q D Ca B 3 o.1 N 27 [(1, .int o.2)] [])) ?_ n z x hf hk
  intro z y hy h1 h2
  refine wsX1_handledInAll_4b C hRm x0 z.1 z.2.1 z.2.2 y hy ⟨fun z2 e => h1 z2 e, fun o e => (h2 _ e) o rfl⟩
def fX1_handledInAll (σ : zS) (x0 : Nat) : Option (zS × Int32) :=
  (zloop (sX1_handledInAll_4 x0) zfuel (σ, 0, 0)).bind fun o5 => some (o5.1, o5.2)
set_option maxRecDepth 100000 in
set_option maxHeartbeats 4000000 in
theorem wfX1_handledInAll (C : zC p s m args meth c cX1_handledInAll RX1 3 D Ca B En) (hRm : zRm R 0 0 cells slots) (σ : zS) (x0 : Nat) (τ : zS) (r : Int32) (hf : fX1_handledInAll σ x0 = some (τ, r)) (hq : ∀ (pc : Nat) (lv : List (Nat × Value)), decode cX1_handledInAll pc = .ok (.ireturn, 1) → zW p l e R s m args below meth c cells slots Q D Ca B 3 τ N pc lv [.int r]) : zW p l e R s m args below meth c cells slots Q D Ca B 3 σ N 0 [(0, .ref x0)] [] := by
  unfold fX1_handledInAll at hf
  refine z_iconst C 0 dX1_handledInAll_0 (by decide) ?_
  refine z_istore_n (lv2 := [(1, .int 0), (0, .ref x0)]) C dX1_handledInAll_1 rfl (by decide) rfl ?_
  refine z_iconst C 0 dX1_handledInAll_2 (by decide) ?_
  refine z_istore_n (lv2 := [(2, .int 0), (1, .int 0), (0, .ref x0)]) C dX1_handledInAll_3 rfl (by decide) rfl ?_
  obtain ⟨o5, ho5, hf⟩ := zbind hf
  refine z_sub [2, 1, 0] rfl ?_
  refine wsX1_handledInAll_4 C hRm _ zfuel (σ, 0, 0) o5 ho5 ?_
  intro z9 e9
  subst e9
  refine z_iload_n C dX1_handledInAll_27 rfl 0 rfl ?_
  cases hf
  exact hq _ _ dX1_handledInAll_28

theorem mX1_handledInAll (l : Launch) (D : va_G) (Ca : Nat → ClassId) (B : Nat) (En : State → Prop) (hE : zEk B En) (σ : zS) (N : Nat) (x0 : Nat) (X : zS × Int32) (hf : fX1_handledInAll σ x0 = some X) : zMi l D Ca B En yX1_handledInAll cX1_handledInAll 3 (Option.some Jvm.ClassFile.FieldType.int) 0 0 [.ref x0] σ N X.1 X.2 :=
  zMet_i (own := RX1) hE (by decide +kernel) rfl (Nat.le_of_ble_eq_true rfl) (fun p e s m args below meth c C hr hRm => wfX1_handledInAll C hRm σ x0 X.1 X.2 hf (fun pc lv hd => zfin_i C hr hd))
theorem dX1_positionsInAll_0 : decode cX1_positionsInAll 0 = .ok (.iconst 0, 1) := by decide +kernel
theorem dX1_positionsInAll_1 : decode cX1_positionsInAll 1 = .ok (.istore_n 1, 1) := by decide +kernel
theorem dX1_positionsInAll_2 : decode cX1_positionsInAll 2 = .ok (.iconst 0, 1) := by decide +kernel
theorem dX1_positionsInAll_3 : decode cX1_positionsInAll 3 = .ok (.istore_n 2, 1) := by decide +kernel
theorem dX1_positionsInAll_4 : decode cX1_positionsInAll 4 = .ok (.iload_n 2, 1) := by decide +kernel
theorem dX1_positionsInAll_5 : decode cX1_positionsInAll 5 = .ok (.aload_n 0, 1) := by decide +kernel
theorem dX1_positionsInAll_6 : decode cX1_positionsInAll 6 = .ok (.getfield 54, 3) := by decide +kernel
theorem dX1_positionsInAll_9 : decode cX1_positionsInAll 9 = .ok (.getfield 140, 3) := by decide +kernel
theorem dX1_positionsInAll_12 : decode cX1_positionsInAll 12 = .ok (.if_icmp .ge 18, 3) := by decide +kernel
theorem dX1_positionsInAll_15 : decode cX1_positionsInAll 15 = .ok (.iload_n 1, 1) := by decide +kernel
theorem dX1_positionsInAll_16 : decode cX1_positionsInAll 16 = .ok (.aload_n 0, 1) := by decide +kernel
theorem dX1_positionsInAll_17 : decode cX1_positionsInAll 17 = .ok (.getfield 15, 3) := by decide +kernel
theorem dX1_positionsInAll_20 : decode cX1_positionsInAll 20 = .ok (.iload_n 2, 1) := by decide +kernel
theorem dX1_positionsInAll_21 : decode cX1_positionsInAll 21 = .ok (.iaload, 1) := by decide +kernel
theorem dX1_positionsInAll_22 : decode cX1_positionsInAll 22 = .ok (.iadd, 1) := by decide +kernel
theorem dX1_positionsInAll_23 : decode cX1_positionsInAll 23 = .ok (.istore_n 1, 1) := by decide +kernel
theorem dX1_positionsInAll_24 : decode cX1_positionsInAll 24 = .ok (.iinc 2 1, 3) := by decide +kernel
theorem dX1_positionsInAll_27 : decode cX1_positionsInAll 27 = .ok (.goto (-23), 3) := by decide +kernel
theorem dX1_positionsInAll_30 : decode cX1_positionsInAll 30 = .ok (.iload_n 1, 1) := by decide +kernel
theorem dX1_positionsInAll_31 : decode cX1_positionsInAll 31 = .ok (.ireturn, 1) := by decide +kernel
theorem hyX1_positionsInAll : yX1_positionsInAll.cls ≠ "java/lang/invoke/MethodHandle" ∧ yX1_positionsInAll.cls ≠ "java/lang/invoke/VarHandle" ∧ (parseMethodDescriptor yX1_positionsInAll.desc).map (fun d => d.parameters.length) = some 0 := ⟨by decide +kernel, by decide +kernel, by decide +kernel⟩
def sX1_positionsInAll_4b (x0 : Nat) (σ : zS) (u1 : Int32) (u2 : Int32) : Option ((zS × Int32 × Int32) ⊕ (zS × Int32)) :=
  (zgR 1 17 σ x0).bind fun v1 => (zgI 7 0 σ v1).bind fun v2 => (if v2 ≤ u2 then some (.inr (σ, u1)) else (zgR 1 10 σ x0).bind fun v3 => (zaI σ v3 u2).bind fun v4 => some (.inl (σ, u1 + v4, u2 + 1)))
def sX1_positionsInAll_4 (x0 : Nat) (z : (zS × Int32 × Int32)) : Option ((zS × Int32 × Int32) ⊕ (zS × Int32)) := sX1_positionsInAll_4b x0 z.1 z.2.1 z.2.2
set_option maxRecDepth 100000 in
set_option maxHeartbeats 4000000 in
theorem wsX1_positionsInAll_4b (C : zC p s m args meth c cX1_positionsInAll RX1 3 D Ca B En) (hRm : zRm R 0 0 cells slots) (x0 : Nat) (σ : zS) (u1 : Int32) (u2 : Int32) (y : (zS × Int32 × Int32) ⊕ (zS × Int32)) (hf : sX1_positionsInAll_4b x0 σ u1 u2 = some y) (hk : (∀ z : (zS × Int32 × Int32), y = .inl z → zW p l e R s m args below meth c cells slots Q D Ca B 3 z.1 N 4 [(0, .ref x0), (1, .int z.2.1), (2, .int z.2.2)] []) ∧ (∀ z : (zS × Int32), y = .inr z → zW p l e R s m args below meth c cells slots Q D Ca B 3 z.1 N 30 [(1, .int z.2)] [])) : zW p l e R s m args below meth c cells slots Q D Ca B 3 σ N 4 [(0, .ref x0), (1, .int u1), (2, .int u2)] [] := by
  unfold sX1_positionsInAll_4b at hf
  refine z_iload_n C dX1_positionsInAll_4 rfl 2 rfl ?_
  refine z_aload_n C dX1_positionsInAll_5 rfl 0 rfl ?_
  obtain ⟨v1, hv1, hf⟩ := zbind hf
  refine gf_RX1_54 C hv1 dX1_positionsInAll_6 ?_
  obtain ⟨v2, hv2, hf⟩ := zbind hf
  refine gf_RX1_140 C hv2 dX1_positionsInAll_9 ?_
  refine z_icmp_ge C 30 dX1_positionsInAll_12 (by decide) (fun q5 => ?_) (fun q5 => ?_)
  · rw [if_pos q5] at hf
    cases hf
    refine z_sub [1] rfl ?_
    exact hk.2 _ rfl
  · rw [if_neg q5] at hf
    refine z_iload_n C dX1_positionsInAll_15 rfl 1 rfl ?_
    refine z_aload_n C dX1_positionsInAll_16 rfl 0 rfl ?_
    obtain ⟨v3, hv3, hf⟩ := zbind hf
    refine gf_RX1_15 C hv3 dX1_positionsInAll_17 ?_
    refine z_iload_n C dX1_positionsInAll_20 rfl 2 rfl ?_
    obtain ⟨v4, hv4, hf⟩ := zbind hf
    refine z_aI C hv4 dX1_positionsInAll_21 ?_
    refine z_iadd C dX1_positionsInAll_22 ?_
    refine z_istore_n (lv2 := [(1, .int (u1 + v4)), (0, .ref x0), (2, .int u2)]) C dX1_positionsInAll_23 rfl (by decide) rfl ?_
    refine z_iinc (lv2 := [(2, .int (u2 + 1)), (1, .int (u1 + v4)), (0, .ref x0)]) C (u2 + 1) dX1_positionsInAll_24 2 rfl rfl (by decide) rfl ?_
    refine z_goto C 4 dX1_positionsInAll_27 (by decide) ?_
    cases hf
    refine z_sub [2, 1, 0] rfl ?_
    exact hk.1 _ rfl

theorem wsX1_positionsInAll_4 (C : zC p s m args meth c cX1_positionsInAll RX1 3 D Ca B En) (hRm : zRm R 0 0 cells slots) (x0 : Nat) (n : Nat) (z : (zS × Int32 × Int32)) (x : (zS × Int32)) (hf : zloop (sX1_positionsInAll_4 x0) n z = some x) (hk : (∀ o : (zS × Int32), x = o → zW p l e R s m args below meth c cells slots Q D Ca B 3 o.1 N 30 [(1, .int o.2)] [])) : zW p l e R s m args below meth c cells slots Q D Ca B 3 z.1 N 4 [(0, .ref x0), (1, .int z.2.1), (2, .int z.2.2)] [] := by
  refine zloop_W (P := fun z : (zS × Int32 × Int32) => zW p l e R s m args below meth c cells slots Q D Ca B 3 z.1 N 4 [(0, .ref x0), (1, .int z.2.1), (2, .int z.2.2)] []) (K := fun x : (zS × Int32) => (∀ o : (zS × Int32), x = o → zW p l e R s m args below meth c cells slots Q D Ca B 3 o.1 N 30 [(1, .int o.2)] [])) ?_ n z x hf hk
  intro z y hy h1 h2
  refine wsX1_positionsInAll_4b C hRm x0 z.1 z.2.1 z.2.2 y hy ⟨fun z2 e => h1 z2 e, fun o e => (h2 _ e) o rfl⟩
def fX1_positionsInAll (σ : zS) (x0 : Nat) : Option (zS × Int32) :=
  (zloop (sX1_positionsInAll_4 x0) zfuel (σ, 0, 0)).bind fun o6 => some (o6.1, o6.2)
set_option maxRecDepth 100000 in
set_option maxHeartbeats 4000000 in
theorem wfX1_positionsInAll (C : zC p s m args meth c cX1_positionsInAll RX1 3 D Ca B En) (hRm : zRm R 0 0 cells slots) (σ : zS) (x0 : Nat) (τ : zS) (r : Int32) (hf : fX1_positionsInAll σ x0 = some (τ, r)) (hq : ∀ (pc : Nat) (lv : List (Nat × Value)), decode cX1_positionsInAll pc = .ok (.ireturn, 1) → zW p l e R s m args below meth c cells slots Q D Ca B 3 τ N pc lv [.int r]) : zW p l e R s m args below meth c cells slots Q D Ca B 3 σ N 0 [(0, .ref x0)] [] := by
  unfold fX1_positionsInAll at hf
  refine z_iconst C 0 dX1_positionsInAll_0 (by decide) ?_
  refine z_istore_n (lv2 := [(1, .int 0), (0, .ref x0)]) C dX1_positionsInAll_1 rfl (by decide) rfl ?_
  refine z_iconst C 0 dX1_positionsInAll_2 (by decide) ?_
  refine z_istore_n (lv2 := [(2, .int 0), (1, .int 0), (0, .ref x0)]) C dX1_positionsInAll_3 rfl (by decide) rfl ?_
  obtain ⟨o6, ho6, hf⟩ := zbind hf
  refine z_sub [2, 1, 0] rfl ?_
  refine wsX1_positionsInAll_4 C hRm _ zfuel (σ, 0, 0) o6 ho6 ?_
  intro z9 e9
  subst e9
  refine z_iload_n C dX1_positionsInAll_30 rfl 0 rfl ?_
  cases hf
  exact hq _ _ dX1_positionsInAll_31

theorem mX1_positionsInAll (l : Launch) (D : va_G) (Ca : Nat → ClassId) (B : Nat) (En : State → Prop) (hE : zEk B En) (σ : zS) (N : Nat) (x0 : Nat) (X : zS × Int32) (hf : fX1_positionsInAll σ x0 = some X) : zMi l D Ca B En yX1_positionsInAll cX1_positionsInAll 3 (Option.some Jvm.ClassFile.FieldType.int) 0 0 [.ref x0] σ N X.1 X.2 :=
  zMet_i (own := RX1) hE (by decide +kernel) rfl (Nat.le_of_ble_eq_true rfl) (fun p e s m args below meth c C hr hRm => wfX1_positionsInAll C hRm σ x0 X.1 X.2 hf (fun pc lv hd => zfin_i C hr hd))
theorem dX1_recordsAtRisk_0 : decode cX1_recordsAtRisk 0 = .ok (.aload_n 0, 1) := by decide +kernel
theorem dX1_recordsAtRisk_1 : decode cX1_recordsAtRisk 1 = .ok (.invokevirtual 294, 3) := by decide +kernel
theorem dX1_recordsAtRisk_4 : decode cX1_recordsAtRisk 4 = .ok (.istore_n 1, 1) := by decide +kernel
theorem dX1_recordsAtRisk_5 : decode cX1_recordsAtRisk 5 = .ok (.iconst 0, 1) := by decide +kernel
theorem dX1_recordsAtRisk_6 : decode cX1_recordsAtRisk 6 = .ok (.istore_n 2, 1) := by decide +kernel
theorem dX1_recordsAtRisk_7 : decode cX1_recordsAtRisk 7 = .ok (.aload_n 0, 1) := by decide +kernel
theorem dX1_recordsAtRisk_8 : decode cX1_recordsAtRisk 8 = .ok (.getfield 41, 3) := by decide +kernel
theorem dX1_recordsAtRisk_11 : decode cX1_recordsAtRisk 11 = .ok (.invokevirtual 129, 3) := by decide +kernel
theorem dX1_recordsAtRisk_14 : decode cX1_recordsAtRisk 14 = .ok (.ifCond .eq 32, 3) := by decide +kernel
theorem dX1_recordsAtRisk_17 : decode cX1_recordsAtRisk 17 = .ok (.iload_n 2, 1) := by decide +kernel
theorem dX1_recordsAtRisk_18 : decode cX1_recordsAtRisk 18 = .ok (.aload_n 0, 1) := by decide +kernel
theorem dX1_recordsAtRisk_19 : decode cX1_recordsAtRisk 19 = .ok (.getfield 54, 3) := by decide +kernel
theorem dX1_recordsAtRisk_22 : decode cX1_recordsAtRisk 22 = .ok (.getfield 140, 3) := by decide +kernel
theorem dX1_recordsAtRisk_25 : decode cX1_recordsAtRisk 25 = .ok (.if_icmp .ge 21, 3) := by decide +kernel
theorem dX1_recordsAtRisk_28 : decode cX1_recordsAtRisk 28 = .ok (.iload_n 1, 1) := by decide +kernel
theorem dX1_recordsAtRisk_29 : decode cX1_recordsAtRisk 29 = .ok (.aload_n 0, 1) := by decide +kernel
theorem dX1_recordsAtRisk_30 : decode cX1_recordsAtRisk 30 = .ok (.getfield 41, 3) := by decide +kernel
theorem dX1_recordsAtRisk_33 : decode cX1_recordsAtRisk 33 = .ok (.getfield 189, 3) := by decide +kernel
theorem dX1_recordsAtRisk_36 : decode cX1_recordsAtRisk 36 = .ok (.iload_n 2, 1) := by decide +kernel
theorem dX1_recordsAtRisk_37 : decode cX1_recordsAtRisk 37 = .ok (.iaload, 1) := by decide +kernel
theorem dX1_recordsAtRisk_38 : decode cX1_recordsAtRisk 38 = .ok (.isub, 1) := by decide +kernel
theorem dX1_recordsAtRisk_39 : decode cX1_recordsAtRisk 39 = .ok (.istore_n 1, 1) := by decide +kernel
theorem dX1_recordsAtRisk_40 : decode cX1_recordsAtRisk 40 = .ok (.iinc 2 1, 3) := by decide +kernel
theorem dX1_recordsAtRisk_43 : decode cX1_recordsAtRisk 43 = .ok (.goto (-36), 3) := by decide +kernel
theorem dX1_recordsAtRisk_46 : decode cX1_recordsAtRisk 46 = .ok (.iload_n 1, 1) := by decide +kernel
theorem dX1_recordsAtRisk_47 : decode cX1_recordsAtRisk 47 = .ok (.ireturn, 1) := by decide +kernel
theorem hyX1_recordsAtRisk : yX1_recordsAtRisk.cls ≠ "java/lang/invoke/MethodHandle" ∧ yX1_recordsAtRisk.cls ≠ "java/lang/invoke/VarHandle" ∧ (parseMethodDescriptor yX1_recordsAtRisk.desc).map (fun d => d.parameters.length) = some 0 := ⟨by decide +kernel, by decide +kernel, by decide +kernel⟩
def sX1_recordsAtRisk_7b (x0 : Nat) (σ : zS) (u1 : Int32) (u2 : Int32) : Option ((zS × Int32 × Int32) ⊕ (zS × Int32)) :=
  (zgR 1 16 σ x0).bind fun v2 => (zck 0 σ v2 (fX0_exists σ v2 )).bind fun c3 => (if c3.2 = 0 then some (.inr (c3.1, u1)) else (zgR 1 17 c3.1 x0).bind fun v4 => (zgI 7 0 c3.1 v4).bind fun v5 => (if v5 ≤ u2 then some (.inr (c3.1, u1)) else (zgR 1 16 c3.1 x0).bind fun v6 => (zgR 0 8 c3.1 v6).bind fun v7 => (zaI c3.1 v7 u2).bind fun v8 => some (.inl (c3.1, u1 - v8, u2 + 1))))
def sX1_recordsAtRisk_7 (x0 : Nat) (z : (zS × Int32 × Int32)) : Option ((zS × Int32 × Int32) ⊕ (zS × Int32)) := sX1_recordsAtRisk_7b x0 z.1 z.2.1 z.2.2
set_option maxRecDepth 100000 in
set_option maxHeartbeats 4000000 in
theorem wsX1_recordsAtRisk_7b (C : zC p s m args meth c cX1_recordsAtRisk RX1 3 D Ca B En) (hRm : zRm R 1 22 cells slots) (x0 : Nat) (σ : zS) (u1 : Int32) (u2 : Int32) (y : (zS × Int32 × Int32) ⊕ (zS × Int32)) (hf : sX1_recordsAtRisk_7b x0 σ u1 u2 = some y) (hk : (∀ z : (zS × Int32 × Int32), y = .inl z → zW p l e R s m args below meth c cells slots Q D Ca B 3 z.1 N 7 [(0, .ref x0), (1, .int z.2.1), (2, .int z.2.2)] []) ∧ (∀ z : (zS × Int32), y = .inr z → zW p l e R s m args below meth c cells slots Q D Ca B 3 z.1 N 46 [(1, .int z.2)] [])) : zW p l e R s m args below meth c cells slots Q D Ca B 3 σ N 7 [(0, .ref x0), (1, .int u1), (2, .int u2)] [] := by
  unfold sX1_recordsAtRisk_7b at hf
  refine z_aload_n C dX1_recordsAtRisk_7 rfl 0 rfl ?_
  obtain ⟨v2, hv2, hf⟩ := zbind hf
  refine gf_RX1_41 C hv2 dX1_recordsAtRisk_8 ?_
  obtain ⟨c3, hc3, hf⟩ := zbind hf
  obtain ⟨kc3, hc3⟩ := zck_ok hc3
  refine z_callVi (As := []) (F0 := 1) (L0 := 22) C (mX0_exists l D Ca B En C.2.2.2.2.2.2.2.1 σ N v2  _ hc3) hRm kc3 rfl kw_318 kw_10 kw_315 kw_316 kw_317 hyX0_exists (Nat.le_of_ble_eq_true rfl) (Nat.le_of_ble_eq_true rfl) rfl rfl (Nat.le_of_ble_eq_true rfl) dX1_recordsAtRisk_11 ?_
  refine z_if_eq C 46 dX1_recordsAtRisk_14 (by decide) (fun q10 => ?_) (fun q10 => ?_)
  · rw [if_pos q10] at hf
    cases hf
    refine z_sub [1] rfl ?_
    exact hk.2 _ rfl
  · rw [if_neg q10] at hf
    refine z_iload_n C dX1_recordsAtRisk_17 rfl 2 rfl ?_
    refine z_aload_n C dX1_recordsAtRisk_18 rfl 0 rfl ?_
    obtain ⟨v4, hv4, hf⟩ := zbind hf
    refine gf_RX1_54 C hv4 dX1_recordsAtRisk_19 ?_
    obtain ⟨v5, hv5, hf⟩ := zbind hf
    refine gf_RX1_140 C hv5 dX1_recordsAtRisk_22 ?_
    refine z_icmp_ge C 46 dX1_recordsAtRisk_25 (by decide) (fun q9 => ?_) (fun q9 => ?_)
    · rw [if_pos q9] at hf
      cases hf
      refine z_sub [1] rfl ?_
      exact hk.2 _ rfl
    · rw [if_neg q9] at hf
      refine z_iload_n C dX1_recordsAtRisk_28 rfl 1 rfl ?_
      refine z_aload_n C dX1_recordsAtRisk_29 rfl 0 rfl ?_
      obtain ⟨v6, hv6, hf⟩ := zbind hf
      refine gf_RX1_41 C hv6 dX1_recordsAtRisk_30 ?_
      obtain ⟨v7, hv7, hf⟩ := zbind hf
      refine gf_RX1_189 C hv7 dX1_recordsAtRisk_33 ?_
      refine z_iload_n C dX1_recordsAtRisk_36 rfl 2 rfl ?_
      obtain ⟨v8, hv8, hf⟩ := zbind hf
      refine z_aI C hv8 dX1_recordsAtRisk_37 ?_
      refine z_isub C dX1_recordsAtRisk_38 ?_
      refine z_istore_n (lv2 := [(1, .int (u1 - v8)), (0, .ref x0), (2, .int u2)]) C dX1_recordsAtRisk_39 rfl (by decide) rfl ?_
      refine z_iinc (lv2 := [(2, .int (u2 + 1)), (1, .int (u1 - v8)), (0, .ref x0)]) C (u2 + 1) dX1_recordsAtRisk_40 2 rfl rfl (by decide) rfl ?_
      refine z_goto C 7 dX1_recordsAtRisk_43 (by decide) ?_
      cases hf
      refine z_sub [2, 1, 0] rfl ?_
      exact hk.1 _ rfl

theorem wsX1_recordsAtRisk_7 (C : zC p s m args meth c cX1_recordsAtRisk RX1 3 D Ca B En) (hRm : zRm R 1 22 cells slots) (x0 : Nat) (n : Nat) (z : (zS × Int32 × Int32)) (x : (zS × Int32)) (hf : zloop (sX1_recordsAtRisk_7 x0) n z = some x) (hk : (∀ o : (zS × Int32), x = o → zW p l e R s m args below meth c cells slots Q D Ca B 3 o.1 N 46 [(1, .int o.2)] [])) : zW p l e R s m args below meth c cells slots Q D Ca B 3 z.1 N 7 [(0, .ref x0), (1, .int z.2.1), (2, .int z.2.2)] [] := by
  refine zloop_W (P := fun z : (zS × Int32 × Int32) => zW p l e R s m args below meth c cells slots Q D Ca B 3 z.1 N 7 [(0, .ref x0), (1, .int z.2.1), (2, .int z.2.2)] []) (K := fun x : (zS × Int32) => (∀ o : (zS × Int32), x = o → zW p l e R s m args below meth c cells slots Q D Ca B 3 o.1 N 46 [(1, .int o.2)] [])) ?_ n z x hf hk
  intro z y hy h1 h2
  refine wsX1_recordsAtRisk_7b C hRm x0 z.1 z.2.1 z.2.2 y hy ⟨fun z2 e => h1 z2 e, fun o e => (h2 _ e) o rfl⟩
def fX1_recordsAtRisk (σ : zS) (x0 : Nat) : Option (zS × Int32) :=
  (zck 1 σ x0 (fX1_positionsInAll σ x0 )).bind fun c1 => (zloop (sX1_recordsAtRisk_7 x0) zfuel (c1.1, c1.2, 0)).bind fun o11 => some (o11.1, o11.2)
set_option maxRecDepth 100000 in
set_option maxHeartbeats 4000000 in
theorem wfX1_recordsAtRisk (C : zC p s m args meth c cX1_recordsAtRisk RX1 3 D Ca B En) (hRm : zRm R 1 22 cells slots) (σ : zS) (x0 : Nat) (τ : zS) (r : Int32) (hf : fX1_recordsAtRisk σ x0 = some (τ, r)) (hq : ∀ (pc : Nat) (lv : List (Nat × Value)), decode cX1_recordsAtRisk pc = .ok (.ireturn, 1) → zW p l e R s m args below meth c cells slots Q D Ca B 3 τ N pc lv [.int r]) : zW p l e R s m args below meth c cells slots Q D Ca B 3 σ N 0 [(0, .ref x0)] [] := by
  unfold fX1_recordsAtRisk at hf
  refine z_aload_n C dX1_recordsAtRisk_0 rfl 0 rfl ?_
  obtain ⟨c1, hc1, hf⟩ := zbind hf
  obtain ⟨kc1, hc1⟩ := zck_ok hc1
  refine z_callVi (As := []) (F0 := 1) (L0 := 22) C (mX1_positionsInAll l D Ca B En C.2.2.2.2.2.2.2.1 σ N x0  _ hc1) hRm kc1 rfl kw_663 kw_8 kw_660 kw_661 kw_662 hyX1_positionsInAll (Nat.le_of_ble_eq_true rfl) (Nat.le_of_ble_eq_true rfl) rfl rfl (Nat.le_of_ble_eq_true rfl) dX1_recordsAtRisk_1 ?_
  refine z_istore_n (lv2 := [(1, .int c1.2), (0, .ref x0)]) C dX1_recordsAtRisk_4 rfl (by decide) rfl ?_
  refine z_iconst C 0 dX1_recordsAtRisk_5 (by decide) ?_
  refine z_istore_n (lv2 := [(2, .int 0), (1, .int c1.2), (0, .ref x0)]) C dX1_recordsAtRisk_6 rfl (by decide) rfl ?_
  obtain ⟨o11, ho11, hf⟩ := zbind hf
  refine z_sub [2, 1, 0] rfl ?_
  refine wsX1_recordsAtRisk_7 C hRm _ zfuel (c1.1, c1.2, 0) o11 ho11 ?_
  intro z9 e9
  subst e9
  refine z_iload_n C dX1_recordsAtRisk_46 rfl 0 rfl ?_
  cases hf
  exact hq _ _ dX1_recordsAtRisk_47

theorem mX1_recordsAtRisk (l : Launch) (D : va_G) (Ca : Nat → ClassId) (B : Nat) (En : State → Prop) (hE : zEk B En) (σ : zS) (N : Nat) (x0 : Nat) (X : zS × Int32) (hf : fX1_recordsAtRisk σ x0 = some X) : zMi l D Ca B En yX1_recordsAtRisk cX1_recordsAtRisk 3 (Option.some Jvm.ClassFile.FieldType.int) 1 22 [.ref x0] σ N X.1 X.2 :=
  zMet_i (own := RX1) hE (by decide +kernel) rfl (Nat.le_of_ble_eq_true rfl) (fun p e s m args below meth c C hr hRm => wfX1_recordsAtRisk C hRm σ x0 X.1 X.2 hf (fun pc lv hd => zfin_i C hr hd))
theorem dX2_addByte_0 : decode cX2_addByte 0 = .ok (.aload_n 0, 1) := by decide +kernel
theorem dX2_addByte_1 : decode cX2_addByte 1 = .ok (.getfield 19, 3) := by decide +kernel
theorem dX2_addByte_4 : decode cX2_addByte 4 = .ok (.ifCond .lt 36, 3) := by decide +kernel
theorem dX2_addByte_7 : decode cX2_addByte 7 = .ok (.aload_n 0, 1) := by decide +kernel
theorem dX2_addByte_8 : decode cX2_addByte 8 = .ok (.getfield 19, 3) := by decide +kernel
theorem dX2_addByte_11 : decode cX2_addByte 11 = .ok (.aload_n 0, 1) := by decide +kernel
theorem dX2_addByte_12 : decode cX2_addByte 12 = .ok (.getfield 9, 3) := by decide +kernel
theorem dX2_addByte_15 : decode cX2_addByte 15 = .ok (.arraylength, 1) := by decide +kernel
theorem dX2_addByte_16 : decode cX2_addByte 16 = .ok (.if_icmp .ge 24, 3) := by decide +kernel
theorem dX2_addByte_19 : decode cX2_addByte 19 = .ok (.aload_n 0, 1) := by decide +kernel
theorem dX2_addByte_20 : decode cX2_addByte 20 = .ok (.getfield 9, 3) := by decide +kernel
theorem dX2_addByte_23 : decode cX2_addByte 23 = .ok (.aload_n 0, 1) := by decide +kernel
theorem dX2_addByte_24 : decode cX2_addByte 24 = .ok (.getfield 19, 3) := by decide +kernel
theorem dX2_addByte_27 : decode cX2_addByte 27 = .ok (.iload_n 1, 1) := by decide +kernel
theorem dX2_addByte_28 : decode cX2_addByte 28 = .ok (.i2b, 1) := by decide +kernel
theorem dX2_addByte_29 : decode cX2_addByte 29 = .ok (.bastore, 1) := by decide +kernel
theorem dX2_addByte_30 : decode cX2_addByte 30 = .ok (.aload_n 0, 1) := by decide +kernel
theorem dX2_addByte_31 : decode cX2_addByte 31 = .ok (.dup, 1) := by decide +kernel
theorem dX2_addByte_32 : decode cX2_addByte 32 = .ok (.getfield 19, 3) := by decide +kernel
theorem dX2_addByte_35 : decode cX2_addByte 35 = .ok (.iconst 1, 1) := by decide +kernel
theorem dX2_addByte_36 : decode cX2_addByte 36 = .ok (.iadd, 1) := by decide +kernel
theorem dX2_addByte_37 : decode cX2_addByte 37 = .ok (.putfield 19, 3) := by decide +kernel
theorem dX2_addByte_40 : decode cX2_addByte 40 = .ok (.return_, 1) := by decide +kernel
theorem hyX2_addByte : yX2_addByte.cls ≠ "java/lang/invoke/MethodHandle" ∧ yX2_addByte.cls ≠ "java/lang/invoke/VarHandle" ∧ (parseMethodDescriptor yX2_addByte.desc).map (fun d => d.parameters.length) = some 1 := ⟨by decide +kernel, by decide +kernel, by decide +kernel⟩
def fX2_addByte (σ : zS) (x0 : Nat) (x1 : Int32) : Option zS :=
  (zgI 2 1 σ x0).bind fun v1 => (if v1 < 0 then some σ else (zgI 2 1 σ x0).bind fun v2 => (zgR 2 0 σ x0).bind fun v3 => (zlen σ v3).bind fun v4 => (if v4 ≤ v2 then some σ else (zgR 2 0 σ x0).bind fun v5 => (zgI 2 1 σ x0).bind fun v6 => (zsB σ v5 v6 x1.toInt8.toInt32).bind fun σ7 => (zgI 2 1 σ7 x0).bind fun v8 => (zpI 2 1 σ7 x0 (v8 + 1)).bind fun σ9 => some σ9))
set_option maxRecDepth 100000 in
set_option maxHeartbeats 4000000 in
theorem wfX2_addByte (C : zC p s m args meth c cX2_addByte RX2 2 D Ca B En) (hRm : zRm R 0 0 cells slots) (σ : zS) (x0 : Nat) (x1 : Int32) (τ : zS) (hf : fX2_addByte σ x0 x1 = some τ) (hq : ∀ (pc : Nat) (lv : List (Nat × Value)), decode cX2_addByte pc = .ok (.return_, 1) → zW p l e R s m args below meth c cells slots Q D Ca B 2 τ N pc lv []) : zW p l e R s m args below meth c cells slots Q D Ca B 2 σ N 0 [(0, .ref x0), (1, .int x1)] [] := by
  unfold fX2_addByte at hf
  refine z_aload_n C dX2_addByte_0 rfl 0 rfl ?_
  obtain ⟨v1, hv1, hf⟩ := zbind hf
  refine gf_RX2_19 C hv1 dX2_addByte_1 ?_
  refine z_if_lt C 40 dX2_addByte_4 (by decide) (fun q11 => ?_) (fun q11 => ?_)
  · rw [if_pos q11] at hf
    cases hf
    exact hq _ _ dX2_addByte_40
  · rw [if_neg q11] at hf
    refine z_aload_n C dX2_addByte_7 rfl 0 rfl ?_
    obtain ⟨v2, hv2, hf⟩ := zbind hf
    refine gf_RX2_19 C hv2 dX2_addByte_8 ?_
    refine z_aload_n C dX2_addByte_11 rfl 0 rfl ?_
    obtain ⟨v3, hv3, hf⟩ := zbind hf
    refine gf_RX2_9 C hv3 dX2_addByte_12 ?_
    obtain ⟨v4, hv4, hf⟩ := zbind hf
    refine z_alen C hv4 dX2_addByte_15 ?_
    refine z_icmp_ge C 40 dX2_addByte_16 (by decide) (fun q10 => ?_) (fun q10 => ?_)
    · rw [if_pos q10] at hf
      cases hf
      exact hq _ _ dX2_addByte_40
    · rw [if_neg q10] at hf
      refine z_aload_n C dX2_addByte_19 rfl 0 rfl ?_
      obtain ⟨v5, hv5, hf⟩ := zbind hf
      refine gf_RX2_9 C hv5 dX2_addByte_20 ?_
      refine z_aload_n C dX2_addByte_23 rfl 0 rfl ?_
      obtain ⟨v6, hv6, hf⟩ := zbind hf
      refine gf_RX2_19 C hv6 dX2_addByte_24 ?_
      refine z_iload_n C dX2_addByte_27 rfl 1 rfl ?_
      refine z_i2b C dX2_addByte_28 ?_
      obtain ⟨σ7, hσ7, hf⟩ := zbind hf
      refine z_sB C hσ7 dX2_addByte_29 ?_
      refine z_aload_n C dX2_addByte_30 rfl 0 rfl ?_
      refine z_dup C dX2_addByte_31 rfl ?_
      obtain ⟨v8, hv8, hf⟩ := zbind hf
      refine gf_RX2_19 C hv8 dX2_addByte_32 ?_
      refine z_iconst C 1 dX2_addByte_35 (by decide) ?_
      refine z_iadd C dX2_addByte_36 ?_
      obtain ⟨σ9, hσ9, hf⟩ := zbind hf
      refine gp_RX2_19 C hσ9 dX2_addByte_37 ?_
      cases hf
      exact hq _ _ dX2_addByte_40

theorem mX2_addByte (l : Launch) (D : va_G) (Ca : Nat → ClassId) (B : Nat) (En : State → Prop) (hE : zEk B En) (σ : zS) (N : Nat) (x0 : Nat) (x1 : Int32) (X : zS) (hf : fX2_addByte σ x0 x1 = some X) : zMv l D Ca B En yX2_addByte cX2_addByte 2 (Option.none : Option Jvm.ClassFile.FieldType) 0 0 [.ref x0, .int x1] σ N X () :=
  zMet_v (own := RX2) hE (by decide +kernel) rfl (Nat.le_of_ble_eq_true rfl) (fun p e s m args below meth c C hr hRm => wfX2_addByte C hRm σ x0 x1 X hf (fun pc lv hd => zfin_v (r := ()) C hr hd))
theorem dX2_addFourBytes_0 : decode cX2_addFourBytes 0 = .ok (.aload_n 0, 1) := by decide +kernel
theorem dX2_addFourBytes_1 : decode cX2_addFourBytes 1 = .ok (.iload_n 1, 1) := by decide +kernel
theorem dX2_addFourBytes_2 : decode cX2_addFourBytes 2 = .ok (.bipush 24, 2) := by decide +kernel
theorem dX2_addFourBytes_4 : decode cX2_addFourBytes 4 = .ok (.iushr, 1) := by decide +kernel
theorem dX2_addFourBytes_5 : decode cX2_addFourBytes 5 = .ok (.invokevirtual 15, 3) := by decide +kernel
theorem dX2_addFourBytes_8 : decode cX2_addFourBytes 8 = .ok (.aload_n 0, 1) := by decide +kernel
theorem dX2_addFourBytes_9 : decode cX2_addFourBytes 9 = .ok (.iload_n 1, 1) := by decide +kernel
theorem dX2_addFourBytes_10 : decode cX2_addFourBytes 10 = .ok (.bipush 16, 2) := by decide +kernel
theorem dX2_addFourBytes_12 : decode cX2_addFourBytes 12 = .ok (.iushr, 1) := by decide +kernel
theorem dX2_addFourBytes_13 : decode cX2_addFourBytes 13 = .ok (.invokevirtual 15, 3) := by decide +kernel
theorem dX2_addFourBytes_16 : decode cX2_addFourBytes 16 = .ok (.aload_n 0, 1) := by decide +kernel
theorem dX2_addFourBytes_17 : decode cX2_addFourBytes 17 = .ok (.iload_n 1, 1) := by decide +kernel
theorem dX2_addFourBytes_18 : decode cX2_addFourBytes 18 = .ok (.bipush 8, 2) := by decide +kernel
theorem dX2_addFourBytes_20 : decode cX2_addFourBytes 20 = .ok (.iushr, 1) := by decide +kernel
theorem dX2_addFourBytes_21 : decode cX2_addFourBytes 21 = .ok (.invokevirtual 15, 3) := by decide +kernel
theorem dX2_addFourBytes_24 : decode cX2_addFourBytes 24 = .ok (.aload_n 0, 1) := by decide +kernel
theorem dX2_addFourBytes_25 : decode cX2_addFourBytes 25 = .ok (.iload_n 1, 1) := by decide +kernel
theorem dX2_addFourBytes_26 : decode cX2_addFourBytes 26 = .ok (.invokevirtual 15, 3) := by decide +kernel
theorem dX2_addFourBytes_29 : decode cX2_addFourBytes 29 = .ok (.return_, 1) := by decide +kernel
theorem hyX2_addFourBytes : yX2_addFourBytes.cls ≠ "java/lang/invoke/MethodHandle" ∧ yX2_addFourBytes.cls ≠ "java/lang/invoke/VarHandle" ∧ (parseMethodDescriptor yX2_addFourBytes.desc).map (fun d => d.parameters.length) = some 1 := ⟨by decide +kernel, by decide +kernel, by decide +kernel⟩
def fX2_addFourBytes (σ : zS) (x0 : Nat) (x1 : Int32) : Option zS :=
  (zck 2 σ x0 (fX2_addByte σ x0 ((x1.toUInt32 >>> ((24 : Int32).toUInt32 &&& Int32.toUInt32 31)).toInt32))).bind fun c1 => (zck 2 c1 x0 (fX2_addByte c1 x0 ((x1.toUInt32 >>> ((16 : Int32).toUInt32 &&& Int32.toUInt32 31)).toInt32))).bind fun c2 => (zck 2 c2 x0 (fX2_addByte c2 x0 ((x1.toUInt32 >>> ((8 : Int32).toUInt32 &&& Int32.toUInt32 31)).toInt32))).bind fun c3 => (zck 2 c3 x0 (fX2_addByte c3 x0 x1)).bind fun c4 => some c4
set_option maxRecDepth 100000 in
set_option maxHeartbeats 4000000 in
theorem wfX2_addFourBytes (C : zC p s m args meth c cX2_addFourBytes RX2 2 D Ca B En) (hRm : zRm R 1 21 cells slots) (σ : zS) (x0 : Nat) (x1 : Int32) (τ : zS) (hf : fX2_addFourBytes σ x0 x1 = some τ) (hq : ∀ (pc : Nat) (lv : List (Nat × Value)), decode cX2_addFourBytes pc = .ok (.return_, 1) → zW p l e R s m args below meth c cells slots Q D Ca B 2 τ N pc lv []) : zW p l e R s m args below meth c cells slots Q D Ca B 2 σ N 0 [(0, .ref x0), (1, .int x1)] [] := by
  unfold fX2_addFourBytes at hf
  refine z_aload_n C dX2_addFourBytes_0 rfl 0 rfl ?_
  refine z_iload_n C dX2_addFourBytes_1 rfl 1 rfl ?_
  refine z_bipush C 24 dX2_addFourBytes_2 (by decide) ?_
  refine z_iushr C dX2_addFourBytes_4 ?_
  obtain ⟨c1, hc1, hf⟩ := zbind hf
  obtain ⟨kc1, hc1⟩ := zck_ok hc1
  refine z_callVv (As := [.int ((x1.toUInt32 >>> ((24 : Int32).toUInt32 &&& Int32.toUInt32 31)).toInt32)]) (F0 := 1) (L0 := 21) C (mX2_addByte l D Ca B En C.2.2.2.2.2.2.2.1 σ N x0 ((x1.toUInt32 >>> ((24 : Int32).toUInt32 &&& Int32.toUInt32 31)).toInt32) _ hc1) hRm kc1 rfl kw_491 kw_2 kw_488 kw_490 kp_4 hyX2_addByte (Nat.le_of_ble_eq_true rfl) (Nat.le_of_ble_eq_true rfl) rfl rfl (Nat.le_of_ble_eq_true rfl) dX2_addFourBytes_5 ?_
  refine z_aload_n C dX2_addFourBytes_8 rfl 0 rfl ?_
  refine z_iload_n C dX2_addFourBytes_9 rfl 1 rfl ?_
  refine z_bipush C 16 dX2_addFourBytes_10 (by decide) ?_
  refine z_iushr C dX2_addFourBytes_12 ?_
  obtain ⟨c2, hc2, hf⟩ := zbind hf
  obtain ⟨kc2, hc2⟩ := zck_ok hc2
  refine z_callVv (As := [.int ((x1.toUInt32 >>> ((16 : Int32).toUInt32 &&& Int32.toUInt32 31)).toInt32)]) (F0 := 1) (L0 := 21) C (mX2_addByte l D Ca B En C.2.2.2.2.2.2.2.1 c1 N x0 ((x1.toUInt32 >>> ((16 : Int32).toUInt32 &&& Int32.toUInt32 31)).toInt32) _ hc2) hRm kc2 rfl kw_491 kw_2 kw_488 kw_490 kp_4 hyX2_addByte (Nat.le_of_ble_eq_true rfl) (Nat.le_of_ble_eq_true rfl) rfl rfl (Nat.le_of_ble_eq_true rfl) dX2_addFourBytes_13 ?_
  refine z_aload_n C dX2_addFourBytes_16 rfl 0 rfl ?_
  refine z_iload_n C dX2_addFourBytes_17 rfl 1 rfl ?_
  refine z_bipush C 8 dX2_addFourBytes_18 (by decide) ?_
  refine z_iushr C dX2_addFourBytes_20 ?_
  obtain ⟨c3, hc3, hf⟩ := zbind hf
  obtain ⟨kc3, hc3⟩ := zck_ok hc3
  refine z_callVv (As := [.int ((x1.toUInt32 >>> ((8 : Int32).toUInt32 &&& Int32.toUInt32 31)).toInt32)]) (F0 := 1) (L0 := 21) C (mX2_addByte l D Ca B En C.2.2.2.2.2.2.2.1 c2 N x0 ((x1.toUInt32 >>> ((8 : Int32).toUInt32 &&& Int32.toUInt32 31)).toInt32) _ hc3) hRm kc3 rfl kw_491 kw_2 kw_488 kw_490 kp_4 hyX2_addByte (Nat.le_of_ble_eq_true rfl) (Nat.le_of_ble_eq_true rfl) rfl rfl (Nat.le_of_ble_eq_true rfl) dX2_addFourBytes_21 ?_
  refine z_aload_n C dX2_addFourBytes_24 rfl 0 rfl ?_
  refine z_iload_n C dX2_addFourBytes_25 rfl 1 rfl ?_
  obtain ⟨c4, hc4, hf⟩ := zbind hf
  obtain ⟨kc4, hc4⟩ := zck_ok hc4
  refine z_callVv (As := [.int x1]) (F0 := 1) (L0 := 21) C (mX2_addByte l D Ca B En C.2.2.2.2.2.2.2.1 c3 N x0 x1 _ hc4) hRm kc4 rfl kw_491 kw_2 kw_488 kw_490 kp_4 hyX2_addByte (Nat.le_of_ble_eq_true rfl) (Nat.le_of_ble_eq_true rfl) rfl rfl (Nat.le_of_ble_eq_true rfl) dX2_addFourBytes_26 ?_
  cases hf
  exact hq _ _ dX2_addFourBytes_29

theorem mX2_addFourBytes (l : Launch) (D : va_G) (Ca : Nat → ClassId) (B : Nat) (En : State → Prop) (hE : zEk B En) (σ : zS) (N : Nat) (x0 : Nat) (x1 : Int32) (X : zS) (hf : fX2_addFourBytes σ x0 x1 = some X) : zMv l D Ca B En yX2_addFourBytes cX2_addFourBytes 2 (Option.none : Option Jvm.ClassFile.FieldType) 1 21 [.ref x0, .int x1] σ N X () :=
  zMet_v (own := RX2) hE (by decide +kernel) rfl (Nat.le_of_ble_eq_true rfl) (fun p e s m args below meth c C hr hRm => wfX2_addFourBytes C hRm σ x0 x1 X hf (fun pc lv hd => zfin_v (r := ()) C hr hd))
theorem dX2_byteAt_0 : decode cX2_byteAt 0 = .ok (.iload_n 1, 1) := by decide +kernel
theorem dX2_byteAt_1 : decode cX2_byteAt 1 = .ok (.ifCond .lt 29, 3) := by decide +kernel
theorem dX2_byteAt_4 : decode cX2_byteAt 4 = .ok (.iload_n 1, 1) := by decide +kernel
theorem dX2_byteAt_5 : decode cX2_byteAt 5 = .ok (.aload_n 0, 1) := by decide +kernel
theorem dX2_byteAt_6 : decode cX2_byteAt 6 = .ok (.getfield 19, 3) := by decide +kernel
theorem dX2_byteAt_9 : decode cX2_byteAt 9 = .ok (.if_icmp .ge 21, 3) := by decide +kernel
theorem dX2_byteAt_12 : decode cX2_byteAt 12 = .ok (.iload_n 1, 1) := by decide +kernel
theorem dX2_byteAt_13 : decode cX2_byteAt 13 = .ok (.aload_n 0, 1) := by decide +kernel
theorem dX2_byteAt_14 : decode cX2_byteAt 14 = .ok (.getfield 9, 3) := by decide +kernel
theorem dX2_byteAt_17 : decode cX2_byteAt 17 = .ok (.arraylength, 1) := by decide +kernel
theorem dX2_byteAt_18 : decode cX2_byteAt 18 = .ok (.if_icmp .ge 12, 3) := by decide +kernel
theorem dX2_byteAt_21 : decode cX2_byteAt 21 = .ok (.aload_n 0, 1) := by decide +kernel
theorem dX2_byteAt_22 : decode cX2_byteAt 22 = .ok (.getfield 9, 3) := by decide +kernel
theorem dX2_byteAt_25 : decode cX2_byteAt 25 = .ok (.iload_n 1, 1) := by decide +kernel
theorem dX2_byteAt_26 : decode cX2_byteAt 26 = .ok (.baload, 1) := by decide +kernel
theorem dX2_byteAt_27 : decode cX2_byteAt 27 = .ok (.goto 4, 3) := by decide +kernel
theorem dX2_byteAt_30 : decode cX2_byteAt 30 = .ok (.iconst 0, 1) := by decide +kernel
theorem dX2_byteAt_31 : decode cX2_byteAt 31 = .ok (.ireturn, 1) := by decide +kernel
theorem hyX2_byteAt : yX2_byteAt.cls ≠ "java/lang/invoke/MethodHandle" ∧ yX2_byteAt.cls ≠ "java/lang/invoke/VarHandle" ∧ (parseMethodDescriptor yX2_byteAt.desc).map (fun d => d.parameters.length) = some 1 := ⟨by decide +kernel, by decide +kernel, by decide +kernel⟩
def fX2_byteAt (σ : zS) (x0 : Nat) (x1 : Int32) : Option (zS × Int32) :=
  (if x1 < 0 then some (σ, 0) else (zgI 2 1 σ x0).bind fun v1 => (if v1 ≤ x1 then some (σ, 0) else (zgR 2 0 σ x0).bind fun v2 => (zlen σ v2).bind fun v3 => (if v3 ≤ x1 then some (σ, 0) else (zgR 2 0 σ x0).bind fun v4 => (zaB σ v4 x1).bind fun v5 => some (σ, v5))))
set_option maxRecDepth 100000 in
set_option maxHeartbeats 4000000 in
theorem wfX2_byteAt (C : zC p s m args meth c cX2_byteAt RX2 2 D Ca B En) (hRm : zRm R 0 0 cells slots) (σ : zS) (x0 : Nat) (x1 : Int32) (τ : zS) (r : Int32) (hf : fX2_byteAt σ x0 x1 = some (τ, r)) (hq : ∀ (pc : Nat) (lv : List (Nat × Value)), decode cX2_byteAt pc = .ok (.ireturn, 1) → zW p l e R s m args below meth c cells slots Q D Ca B 2 τ N pc lv [.int r]) : zW p l e R s m args below meth c cells slots Q D Ca B 2 σ N 0 [(0, .ref x0), (1, .int x1)] [] := by
  unfold fX2_byteAt at hf
  refine z_iload_n C dX2_byteAt_0 rfl 1 rfl ?_
  refine z_if_lt C 30 dX2_byteAt_1 (by decide) (fun q8 => ?_) (fun q8 => ?_)
  · rw [if_pos q8] at hf
    refine z_iconst C 0 dX2_byteAt_30 (by decide) ?_
    cases hf
    exact hq _ _ dX2_byteAt_31
  · rw [if_neg q8] at hf
    refine z_iload_n C dX2_byteAt_4 rfl 1 rfl ?_
    refine z_aload_n C dX2_byteAt_5 rfl 0 rfl ?_
    obtain ⟨v1, hv1, hf⟩ := zbind hf
    refine gf_RX2_19 C hv1 dX2_byteAt_6 ?_
    refine z_icmp_ge C 30 dX2_byteAt_9 (by decide) (fun q7 => ?_) (fun q7 => ?_)
    · rw [if_pos q7] at hf
      refine z_iconst C 0 dX2_byteAt_30 (by decide) ?_
      cases hf
      exact hq _ _ dX2_byteAt_31
    · rw [if_neg q7] at hf
      refine z_iload_n C dX2_byteAt_12 rfl 1 rfl ?_
      refine z_aload_n C dX2_byteAt_13 rfl 0 rfl ?_
      obtain ⟨v2, hv2, hf⟩ := zbind hf
      refine gf_RX2_9 C hv2 dX2_byteAt_14 ?_
      obtain ⟨v3, hv3, hf⟩ := zbind hf
      refine z_alen C hv3 dX2_byteAt_17 ?_
      refine z_icmp_ge C 30 dX2_byteAt_18 (by decide) (fun q6 => ?_) (fun q6 => ?_)
      · rw [if_pos q6] at hf
        refine z_iconst C 0 dX2_byteAt_30 (by decide) ?_
        cases hf
        exact hq _ _ dX2_byteAt_31
      · rw [if_neg q6] at hf
        refine z_aload_n C dX2_byteAt_21 rfl 0 rfl ?_
        obtain ⟨v4, hv4, hf⟩ := zbind hf
        refine gf_RX2_9 C hv4 dX2_byteAt_22 ?_
        refine z_iload_n C dX2_byteAt_25 rfl 1 rfl ?_
        obtain ⟨v5, hv5, hf⟩ := zbind hf
        refine z_aB C hv5 dX2_byteAt_26 ?_
        refine z_goto C 31 dX2_byteAt_27 (by decide) ?_
        cases hf
        exact hq _ _ dX2_byteAt_31

theorem mX2_byteAt (l : Launch) (D : va_G) (Ca : Nat → ClassId) (B : Nat) (En : State → Prop) (hE : zEk B En) (σ : zS) (N : Nat) (x0 : Nat) (x1 : Int32) (X : zS × Int32) (hf : fX2_byteAt σ x0 x1 = some X) : zMi l D Ca B En yX2_byteAt cX2_byteAt 2 (Option.some Jvm.ClassFile.FieldType.int) 0 0 [.ref x0, .int x1] σ N X.1 X.2 :=
  zMet_i (own := RX2) hE (by decide +kernel) rfl (Nat.le_of_ble_eq_true rfl) (fun p e s m args below meth c C hr hRm => wfX2_byteAt C hRm σ x0 x1 X.1 X.2 hf (fun pc lv hd => zfin_i C hr hd))
theorem dX3_at_0 : decode cX3_at 0 = .ok (.iload_n 2, 1) := by decide +kernel
theorem dX3_at_1 : decode cX3_at 1 = .ok (.ifCond .lt 12, 3) := by decide +kernel
theorem dX3_at_4 : decode cX3_at 4 = .ok (.iload_n 2, 1) := by decide +kernel
theorem dX3_at_5 : decode cX3_at 5 = .ok (.aload_n 0, 1) := by decide +kernel
theorem dX3_at_6 : decode cX3_at 6 = .ok (.iload_n 1, 1) := by decide +kernel
theorem dX3_at_7 : decode cX3_at 7 = .ok (.invokevirtual 42, 3) := by decide +kernel
theorem dX3_at_10 : decode cX3_at 10 = .ok (.if_icmp .lt 5, 3) := by decide +kernel
theorem dX3_at_13 : decode cX3_at 13 = .ok (.iconst (-1), 1) := by decide +kernel
theorem dX3_at_14 : decode cX3_at 14 = .ok (.ireturn, 1) := by decide +kernel
theorem dX3_at_15 : decode cX3_at 15 = .ok (.aload_n 0, 1) := by decide +kernel
theorem dX3_at_16 : decode cX3_at 16 = .ok (.iload_n 1, 1) := by decide +kernel
theorem dX3_at_17 : decode cX3_at 17 = .ok (.invokevirtual 46, 3) := by decide +kernel
theorem dX3_at_20 : decode cX3_at 20 = .ok (.istore_n 3, 1) := by decide +kernel
theorem dX3_at_21 : decode cX3_at 21 = .ok (.iconst 0, 1) := by decide +kernel
theorem dX3_at_22 : decode cX3_at 22 = .ok (.istore 4, 2) := by decide +kernel
theorem dX3_at_24 : decode cX3_at 24 = .ok (.iload 4, 2) := by decide +kernel
theorem dX3_at_26 : decode cX3_at 26 = .ok (.iload_n 2, 1) := by decide +kernel
theorem dX3_at_27 : decode cX3_at 27 = .ok (.if_icmp .ge 15, 3) := by decide +kernel
theorem dX3_at_30 : decode cX3_at 30 = .ok (.aload_n 0, 1) := by decide +kernel
theorem dX3_at_31 : decode cX3_at 31 = .ok (.iload_n 3, 1) := by decide +kernel
theorem dX3_at_32 : decode cX3_at 32 = .ok (.invokevirtual 49, 3) := by decide +kernel
theorem dX3_at_35 : decode cX3_at 35 = .ok (.istore_n 3, 1) := by decide +kernel
theorem dX3_at_36 : decode cX3_at 36 = .ok (.iinc 4 1, 3) := by decide +kernel
theorem dX3_at_39 : decode cX3_at 39 = .ok (.goto (-15), 3) := by decide +kernel
theorem dX3_at_42 : decode cX3_at 42 = .ok (.iload_n 3, 1) := by decide +kernel
theorem dX3_at_43 : decode cX3_at 43 = .ok (.ireturn, 1) := by decide +kernel
theorem hyX3_at : yX3_at.cls ≠ "java/lang/invoke/MethodHandle" ∧ yX3_at.cls ≠ "java/lang/invoke/VarHandle" ∧ (parseMethodDescriptor yX3_at.desc).map (fun d => d.parameters.length) = some 2 := ⟨by decide +kernel, by decide +kernel, by decide +kernel⟩
def sX3_at_24b (x0 : Nat) (x2 : Int32) (σ : zS) (u3 : Int32) (u4 : Int32) : Option ((zS × Int32 × Int32) ⊕ (zS × Int32)) :=
  (if x2 ≤ u4 then some (.inr (σ, u3)) else (zck 3 σ x0 (fX3_behind σ x0 u3)).bind fun c3 => some (.inl (c3.1, c3.2, u4 + 1)))
def sX3_at_24 (x0 : Nat) (x2 : Int32) (z : (zS × Int32 × Int32)) : Option ((zS × Int32 × Int32) ⊕ (zS × Int32)) := sX3_at_24b x0 x2 z.1 z.2.1 z.2.2
set_option maxRecDepth 100000 in
set_option maxHeartbeats 4000000 in
theorem wsX3_at_24b (C : zC p s m args meth c cX3_at RX3 5 D Ca B En) (hRm : zRm R 2 41 cells slots) (x0 : Nat) (x2 : Int32) (σ : zS) (u3 : Int32) (u4 : Int32) (y : (zS × Int32 × Int32) ⊕ (zS × Int32)) (hf : sX3_at_24b x0 x2 σ u3 u4 = some y) (hk : (∀ z : (zS × Int32 × Int32), y = .inl z → zW p l e R s m args below meth c cells slots Q D Ca B 5 z.1 N 24 [(0, .ref x0), (2, .int x2), (3, .int z.2.1), (4, .int z.2.2)] []) ∧ (∀ z : (zS × Int32), y = .inr z → zW p l e R s m args below meth c cells slots Q D Ca B 5 z.1 N 42 [(3, .int z.2)] [])) : zW p l e R s m args below meth c cells slots Q D Ca B 5 σ N 24 [(0, .ref x0), (2, .int x2), (3, .int u3), (4, .int u4)] [] := by
  unfold sX3_at_24b at hf
  refine z_iload C dX3_at_24 3 rfl ?_
  refine z_iload_n C dX3_at_26 rfl 1 rfl ?_
  refine z_icmp_ge C 42 dX3_at_27 (by decide) (fun q4 => ?_) (fun q4 => ?_)
  · rw [if_pos q4] at hf
    cases hf
    refine z_sub [2] rfl ?_
    exact hk.2 _ rfl
  · rw [if_neg q4] at hf
    refine z_aload_n C dX3_at_30 rfl 0 rfl ?_
    refine z_iload_n C dX3_at_31 rfl 2 rfl ?_
    obtain ⟨c3, hc3, hf⟩ := zbind hf
    obtain ⟨kc3, hc3⟩ := zck_ok hc3
    refine z_callVi (As := [.int u3]) (F0 := 2) (L0 := 41) C (mX3_behind l D Ca B En C.2.2.2.2.2.2.2.1 σ N x0 u3 _ hc3) hRm kc3 rfl kw_350 kw_9 kw_1028 kw_348 kw_349 hyX3_behind (Nat.le_of_ble_eq_true rfl) (Nat.le_of_ble_eq_true rfl) rfl rfl (Nat.le_of_ble_eq_true rfl) dX3_at_32 ?_
    refine z_istore_n (lv2 := [(3, .int c3.2), (0, .ref x0), (2, .int x2), (4, .int u4)]) C dX3_at_35 rfl (by decide) rfl ?_
    refine z_iinc (lv2 := [(4, .int (u4 + 1)), (3, .int c3.2), (0, .ref x0), (2, .int x2)]) C (u4 + 1) dX3_at_36 3 rfl rfl (by decide) rfl ?_
    refine z_goto C 24 dX3_at_39 (by decide) ?_
    cases hf
    refine z_sub [2, 3, 1, 0] rfl ?_
    exact hk.1 _ rfl

theorem wsX3_at_24 (C : zC p s m args meth c cX3_at RX3 5 D Ca B En) (hRm : zRm R 2 41 cells slots) (x0 : Nat) (x2 : Int32) (n : Nat) (z : (zS × Int32 × Int32)) (x : (zS × Int32)) (hf : zloop (sX3_at_24 x0 x2) n z = some x) (hk : (∀ o : (zS × Int32), x = o → zW p l e R s m args below meth c cells slots Q D Ca B 5 o.1 N 42 [(3, .int o.2)] [])) : zW p l e R s m args below meth c cells slots Q D Ca B 5 z.1 N 24 [(0, .ref x0), (2, .int x2), (3, .int z.2.1), (4, .int z.2.2)] [] := by
  refine zloop_W (P := fun z : (zS × Int32 × Int32) => zW p l e R s m args below meth c cells slots Q D Ca B 5 z.1 N 24 [(0, .ref x0), (2, .int x2), (3, .int z.2.1), (4, .int z.2.2)] []) (K := fun x : (zS × Int32) => (∀ o : (zS × Int32), x = o → zW p l e R s m args below meth c cells slots Q D Ca B 5 o.1 N 42 [(3, .int o.2)] [])) ?_ n z x hf hk
  intro z y hy h1 h2
  refine wsX3_at_24b C hRm x0 x2 z.1 z.2.1 z.2.2 y hy ⟨fun z2 e => h1 z2 e, fun o e => (h2 _ e) o rfl⟩
def fX3_at (σ : zS) (x0 : Nat) (x1 : Int32) (x2 : Int32) : Option (zS × Int32) :=
  (if x2 < 0 then some (σ, (-1)) else (zck 3 σ x0 (fX3_sizeOf σ x0 x1)).bind fun c1 => (if x2 < c1.2 then (zck 3 c1.1 x0 (fX3_firstOf c1.1 x0 x1)).bind fun c2 => (zloop (sX3_at_24 x0 x2) zfuel (c2.1, c2.2, 0)).bind fun o5 => some (o5.1, o5.2) else some (c1.1, (-1))))
set_option maxRecDepth 100000 in
set_option maxHeartbeats 4000000 in
theorem wfX3_at (C : zC p s m args meth c cX3_at RX3 5 D Ca B En) (hRm : zRm R 2 41 cells slots) (σ : zS) (x0 : Nat) (x1 : Int32) (x2 : Int32) (τ : zS) (r : Int32) (hf : fX3_at σ x0 x1 x2 = some (τ, r)) (hq : ∀ (pc : Nat) (lv : List (Nat × Value)), decode cX3_at pc = .ok (.ireturn, 1) → zW p l e R s m args below meth c cells slots Q D Ca B 5 τ N pc lv [.int r]) : zW p l e R s m args below meth c cells slots Q D Ca B 5 σ N 0 [(0, .ref x0), (1, .int x1), (2, .int x2)] [] := by
  unfold fX3_at at hf
  refine z_iload_n C dX3_at_0 rfl 2 rfl ?_
  refine z_if_lt C 13 dX3_at_1 (by decide) (fun q7 => ?_) (fun q7 => ?_)
  · rw [if_pos q7] at hf
    refine z_iconst C (-1) dX3_at_13 (by decide) ?_
    cases hf
    exact hq _ _ dX3_at_14
  · rw [if_neg q7] at hf
    refine z_iload_n C dX3_at_4 rfl 2 rfl ?_
    refine z_aload_n C dX3_at_5 rfl 0 rfl ?_
    refine z_iload_n C dX3_at_6 rfl 1 rfl ?_
    obtain ⟨c1, hc1, hf⟩ := zbind hf
    obtain ⟨kc1, hc1⟩ := zck_ok hc1
    refine z_callVi (As := [.int x1]) (F0 := 2) (L0 := 41) C (mX3_sizeOf l D Ca B En C.2.2.2.2.2.2.2.1 σ N x0 x1 _ hc1) hRm kc1 rfl kw_342 kw_9 kw_1027 kw_340 kw_341 hyX3_sizeOf (Nat.le_of_ble_eq_true rfl) (Nat.le_of_ble_eq_true rfl) rfl rfl (Nat.le_of_ble_eq_true rfl) dX3_at_7 ?_
    refine z_icmp_lt C 15 dX3_at_10 (by decide) (fun q6 => ?_) (fun q6 => ?_)
    · rw [if_pos q6] at hf
      refine z_aload_n C dX3_at_15 rfl 0 rfl ?_
      refine z_iload_n C dX3_at_16 rfl 1 rfl ?_
      obtain ⟨c2, hc2, hf⟩ := zbind hf
      obtain ⟨kc2, hc2⟩ := zck_ok hc2
      refine z_callVi (As := [.int x1]) (F0 := 2) (L0 := 41) C (mX3_firstOf l D Ca B En C.2.2.2.2.2.2.2.1 c1.1 N x0 x1 _ hc2) hRm kc2 rfl kw_338 kw_9 kw_814 kw_336 kw_337 hyX3_firstOf (Nat.le_of_ble_eq_true rfl) (Nat.le_of_ble_eq_true rfl) rfl rfl (Nat.le_of_ble_eq_true rfl) dX3_at_17 ?_
      refine z_istore_n (lv2 := [(3, .int c2.2), (0, .ref x0), (1, .int x1), (2, .int x2)]) C dX3_at_20 rfl (by decide) rfl ?_
      refine z_iconst C 0 dX3_at_21 (by decide) ?_
      refine z_istore (lv2 := [(4, .int 0), (3, .int c2.2), (0, .ref x0), (1, .int x1), (2, .int x2)]) C dX3_at_22 (by decide) rfl ?_
      obtain ⟨o5, ho5, hf⟩ := zbind hf
      refine z_sub [2, 4, 1, 0] rfl ?_
      refine wsX3_at_24 C hRm _ _ zfuel (c2.1, c2.2, 0) o5 ho5 ?_
      intro z9 e9
      subst e9
      refine z_iload_n C dX3_at_42 rfl 0 rfl ?_
      cases hf
      exact hq _ _ dX3_at_43
    · rw [if_neg q6] at hf
      refine z_iconst C (-1) dX3_at_13 (by decide) ?_
      cases hf
      exact hq _ _ dX3_at_14

theorem mX3_at (l : Launch) (D : va_G) (Ca : Nat → ClassId) (B : Nat) (En : State → Prop) (hE : zEk B En) (σ : zS) (N : Nat) (x0 : Nat) (x1 : Int32) (x2 : Int32) (X : zS × Int32) (hf : fX3_at σ x0 x1 x2 = some X) : zMi l D Ca B En yX3_at cX3_at 5 (Option.some Jvm.ClassFile.FieldType.int) 2 41 [.ref x0, .int x1, .int x2] σ N X.1 X.2 :=
  zMet_i (own := RX3) hE (by decide +kernel) rfl (Nat.le_of_ble_eq_true rfl) (fun p e s m args below meth c C hr hRm => wfX3_at C hRm σ x0 x1 x2 X.1 X.2 hf (fun pc lv hd => zfin_i C hr hd))
theorem dX4_add_0 : decode cX4_add 0 = .ok (.aload_n 0, 1) := by decide +kernel
theorem dX4_add_1 : decode cX4_add 1 = .ok (.getfield 15, 3) := by decide +kernel
theorem dX4_add_4 : decode cX4_add 4 = .ok (.ifCond .lt 36, 3) := by decide +kernel
theorem dX4_add_7 : decode cX4_add 7 = .ok (.aload_n 0, 1) := by decide +kernel
theorem dX4_add_8 : decode cX4_add 8 = .ok (.getfield 15, 3) := by decide +kernel
theorem dX4_add_11 : decode cX4_add 11 = .ok (.aload_n 0, 1) := by decide +kernel
theorem dX4_add_12 : decode cX4_add 12 = .ok (.getfield 9, 3) := by decide +kernel
theorem dX4_add_15 : decode cX4_add 15 = .ok (.arraylength, 1) := by decide +kernel
theorem dX4_add_16 : decode cX4_add 16 = .ok (.if_icmp .ge 24, 3) := by decide +kernel
theorem dX4_add_19 : decode cX4_add 19 = .ok (.aload_n 0, 1) := by decide +kernel
theorem dX4_add_20 : decode cX4_add 20 = .ok (.getfield 9, 3) := by decide +kernel
theorem dX4_add_23 : decode cX4_add 23 = .ok (.aload_n 0, 1) := by decide +kernel
theorem dX4_add_24 : decode cX4_add 24 = .ok (.getfield 15, 3) := by decide +kernel
theorem dX4_add_27 : decode cX4_add 27 = .ok (.iload_n 1, 1) := by decide +kernel
theorem dX4_add_28 : decode cX4_add 28 = .ok (.i2b, 1) := by decide +kernel
theorem dX4_add_29 : decode cX4_add 29 = .ok (.bastore, 1) := by decide +kernel
theorem dX4_add_30 : decode cX4_add 30 = .ok (.aload_n 0, 1) := by decide +kernel
theorem dX4_add_31 : decode cX4_add 31 = .ok (.dup, 1) := by decide +kernel
theorem dX4_add_32 : decode cX4_add 32 = .ok (.getfield 15, 3) := by decide +kernel
theorem dX4_add_35 : decode cX4_add 35 = .ok (.iconst 1, 1) := by decide +kernel
theorem dX4_add_36 : decode cX4_add 36 = .ok (.iadd, 1) := by decide +kernel
theorem dX4_add_37 : decode cX4_add 37 = .ok (.putfield 15, 3) := by decide +kernel
theorem dX4_add_40 : decode cX4_add 40 = .ok (.return_, 1) := by decide +kernel
theorem hyX4_add : yX4_add.cls ≠ "java/lang/invoke/MethodHandle" ∧ yX4_add.cls ≠ "java/lang/invoke/VarHandle" ∧ (parseMethodDescriptor yX4_add.desc).map (fun d => d.parameters.length) = some 1 := ⟨by decide +kernel, by decide +kernel, by decide +kernel⟩
def fX4_add (σ : zS) (x0 : Nat) (x1 : Int32) : Option zS :=
  (zgI 4 1 σ x0).bind fun v1 => (if v1 < 0 then some σ else (zgI 4 1 σ x0).bind fun v2 => (zgR 4 0 σ x0).bind fun v3 => (zlen σ v3).bind fun v4 => (if v4 ≤ v2 then some σ else (zgR 4 0 σ x0).bind fun v5 => (zgI 4 1 σ x0).bind fun v6 => (zsB σ v5 v6 x1.toInt8.toInt32).bind fun σ7 => (zgI 4 1 σ7 x0).bind fun v8 => (zpI 4 1 σ7 x0 (v8 + 1)).bind fun σ9 => some σ9))
set_option maxRecDepth 100000 in
set_option maxHeartbeats 4000000 in
theorem wfX4_add (C : zC p s m args meth c cX4_add RX4 2 D Ca B En) (hRm : zRm R 0 0 cells slots) (σ : zS) (x0 : Nat) (x1 : Int32) (τ : zS) (hf : fX4_add σ x0 x1 = some τ) (hq : ∀ (pc : Nat) (lv : List (Nat × Value)), decode cX4_add pc = .ok (.return_, 1) → zW p l e R s m args below meth c cells slots Q D Ca B 2 τ N pc lv []) : zW p l e R s m args below meth c cells slots Q D Ca B 2 σ N 0 [(0, .ref x0), (1, .int x1)] [] := by
  unfold fX4_add at hf
  refine z_aload_n C dX4_add_0 rfl 0 rfl ?_
  obtain ⟨v1, hv1, hf⟩ := zbind hf
  refine gf_RX4_15 C hv1 dX4_add_1 ?_
  refine z_if_lt C 40 dX4_add_4 (by decide) (fun q11 => ?_) (fun q11 => ?_)
  · rw [if_pos q11] at hf
    cases hf
    exact hq _ _ dX4_add_40
  · rw [if_neg q11] at hf
    refine z_aload_n C dX4_add_7 rfl 0 rfl ?_
    obtain ⟨v2, hv2, hf⟩ := zbind hf
    refine gf_RX4_15 C hv2 dX4_add_8 ?_
    refine z_aload_n C dX4_add_11 rfl 0 rfl ?_
    obtain ⟨v3, hv3, hf⟩ := zbind hf
    refine gf_RX4_9 C hv3 dX4_add_12 ?_
    obtain ⟨v4, hv4, hf⟩ := zbind hf
    refine z_alen C hv4 dX4_add_15 ?_
    refine z_icmp_ge C 40 dX4_add_16 (by decide) (fun q10 => ?_) (fun q10 => ?_)
    · rw [if_pos q10] at hf
      cases hf
      exact hq _ _ dX4_add_40
    · rw [if_neg q10] at hf
      refine z_aload_n C dX4_add_19 rfl 0 rfl ?_
      obtain ⟨v5, hv5, hf⟩ := zbind hf
      refine gf_RX4_9 C hv5 dX4_add_20 ?_
      refine z_aload_n C dX4_add_23 rfl 0 rfl ?_
      obtain ⟨v6, hv6, hf⟩ := zbind hf
      refine gf_RX4_15 C hv6 dX4_add_24 ?_
      refine z_iload_n C dX4_add_27 rfl 1 rfl ?_
      refine z_i2b C dX4_add_28 ?_
      obtain ⟨σ7, hσ7, hf⟩ := zbind hf
      refine z_sB C hσ7 dX4_add_29 ?_
      refine z_aload_n C dX4_add_30 rfl 0 rfl ?_
      refine z_dup C dX4_add_31 rfl ?_
      obtain ⟨v8, hv8, hf⟩ := zbind hf
      refine gf_RX4_15 C hv8 dX4_add_32 ?_
      refine z_iconst C 1 dX4_add_35 (by decide) ?_
      refine z_iadd C dX4_add_36 ?_
      obtain ⟨σ9, hσ9, hf⟩ := zbind hf
      refine gp_RX4_15 C hσ9 dX4_add_37 ?_
      cases hf
      exact hq _ _ dX4_add_40

theorem mX4_add (l : Launch) (D : va_G) (Ca : Nat → ClassId) (B : Nat) (En : State → Prop) (hE : zEk B En) (σ : zS) (N : Nat) (x0 : Nat) (x1 : Int32) (X : zS) (hf : fX4_add σ x0 x1 = some X) : zMv l D Ca B En yX4_add cX4_add 2 (Option.none : Option Jvm.ClassFile.FieldType) 0 0 [.ref x0, .int x1] σ N X () :=
  zMet_v (own := RX4) hE (by decide +kernel) rfl (Nat.le_of_ble_eq_true rfl) (fun p e s m args below meth c C hr hRm => wfX4_add C hRm σ x0 x1 X hf (fun pc lv hd => zfin_v (r := ()) C hr hd))
theorem dX4_addNumber_0 : decode cX4_addNumber 0 = .ok (.iconst 1, 1) := by decide +kernel
theorem dX4_addNumber_1 : decode cX4_addNumber 1 = .ok (.istore_n 2, 1) := by decide +kernel
theorem dX4_addNumber_2 : decode cX4_addNumber 2 = .ok (.iconst 1, 1) := by decide +kernel
theorem dX4_addNumber_3 : decode cX4_addNumber 3 = .ok (.istore_n 3, 1) := by decide +kernel
theorem dX4_addNumber_4 : decode cX4_addNumber 4 = .ok (.iload_n 3, 1) := by decide +kernel
theorem dX4_addNumber_5 : decode cX4_addNumber 5 = .ok (.bipush 9, 2) := by decide +kernel
theorem dX4_addNumber_7 : decode cX4_addNumber 7 = .ok (.if_icmp .ge 22, 3) := by decide +kernel
theorem dX4_addNumber_10 : decode cX4_addNumber 10 = .ok (.iload_n 1, 1) := by decide +kernel
theorem dX4_addNumber_11 : decode cX4_addNumber 11 = .ok (.bipush 10, 2) := by decide +kernel
theorem dX4_addNumber_13 : decode cX4_addNumber 13 = .ok (.idiv, 1) := by decide +kernel
theorem dX4_addNumber_14 : decode cX4_addNumber 14 = .ok (.iload_n 2, 1) := by decide +kernel
theorem dX4_addNumber_15 : decode cX4_addNumber 15 = .ok (.if_icmp .lt 14, 3) := by decide +kernel
theorem dX4_addNumber_18 : decode cX4_addNumber 18 = .ok (.iload_n 2, 1) := by decide +kernel
theorem dX4_addNumber_19 : decode cX4_addNumber 19 = .ok (.bipush 10, 2) := by decide +kernel
theorem dX4_addNumber_21 : decode cX4_addNumber 21 = .ok (.imul, 1) := by decide +kernel
theorem dX4_addNumber_22 : decode cX4_addNumber 22 = .ok (.istore_n 2, 1) := by decide +kernel
theorem dX4_addNumber_23 : decode cX4_addNumber 23 = .ok (.iinc 3 1, 3) := by decide +kernel
theorem dX4_addNumber_26 : decode cX4_addNumber 26 = .ok (.goto (-22), 3) := by decide +kernel
theorem dX4_addNumber_29 : decode cX4_addNumber 29 = .ok (.iload_n 2, 1) := by decide +kernel
theorem dX4_addNumber_30 : decode cX4_addNumber 30 = .ok (.ifCond .le 24, 3) := by decide +kernel
theorem dX4_addNumber_33 : decode cX4_addNumber 33 = .ok (.aload_n 0, 1) := by decide +kernel
theorem dX4_addNumber_34 : decode cX4_addNumber 34 = .ok (.bipush 48, 2) := by decide +kernel
theorem dX4_addNumber_36 : decode cX4_addNumber 36 = .ok (.iload_n 1, 1) := by decide +kernel
theorem dX4_addNumber_37 : decode cX4_addNumber 37 = .ok (.iload_n 2, 1) := by decide +kernel
theorem dX4_addNumber_38 : decode cX4_addNumber 38 = .ok (.idiv, 1) := by decide +kernel
theorem dX4_addNumber_39 : decode cX4_addNumber 39 = .ok (.bipush 10, 2) := by decide +kernel
theorem dX4_addNumber_41 : decode cX4_addNumber 41 = .ok (.irem, 1) := by decide +kernel
theorem dX4_addNumber_42 : decode cX4_addNumber 42 = .ok (.iadd, 1) := by decide +kernel
theorem dX4_addNumber_43 : decode cX4_addNumber 43 = .ok (.invokevirtual 19, 3) := by decide +kernel
theorem dX4_addNumber_46 : decode cX4_addNumber 46 = .ok (.iload_n 2, 1) := by decide +kernel
theorem dX4_addNumber_47 : decode cX4_addNumber 47 = .ok (.bipush 10, 2) := by decide +kernel
theorem dX4_addNumber_49 : decode cX4_addNumber 49 = .ok (.idiv, 1) := by decide +kernel
theorem dX4_addNumber_50 : decode cX4_addNumber 50 = .ok (.istore_n 2, 1) := by decide +kernel
theorem dX4_addNumber_51 : decode cX4_addNumber 51 = .ok (.goto (-22), 3) := by decide +kernel
theorem dX4_addNumber_54 : decode cX4_addNumber 54 = .ok (.return_, 1) := by decide +kernel
theorem hyX4_addNumber : yX4_addNumber.cls ≠ "java/lang/invoke/MethodHandle" ∧ yX4_addNumber.cls ≠ "java/lang/invoke/VarHandle" ∧ (parseMethodDescriptor yX4_addNumber.desc).map (fun d => d.parameters.length) = some 1 := ⟨by decide +kernel, by decide +kernel, by decide +kernel⟩
def sX4_addNumber_4b (x0 : Nat) (x1 : Int32) (σ : zS) (u2 : Int32) (u3 : Int32) : Option ((zS × Int32 × Int32) ⊕ (zS × Int32)) :=
  (if 9 ≤ u3 then some (.inr (σ, u2)) else (if (x1 / 10) < u2 then some (.inr (σ, u2)) else some (.inl (σ, u2 * 10, u3 + 1))))
def sX4_addNumber_4 (x0 : Nat) (x1 : Int32) (z : (zS × Int32 × Int32)) : Option ((zS × Int32 × Int32) ⊕ (zS × Int32)) := sX4_addNumber_4b x0 x1 z.1 z.2.1 z.2.2
set_option maxRecDepth 100000 in
set_option maxHeartbeats 4000000 in
theorem wsX4_addNumber_4b (C : zC p s m args meth c cX4_addNumber RX4 4 D Ca B En) (hRm : zRm R 1 21 cells slots) (x0 : Nat) (x1 : Int32) (σ : zS) (u2 : Int32) (u3 : Int32) (y : (zS × Int32 × Int32) ⊕ (zS × Int32)) (hf : sX4_addNumber_4b x0 x1 σ u2 u3 = some y) (hk : (∀ z : (zS × Int32 × Int32), y = .inl z → zW p l e R s m args below meth c cells slots Q D Ca B 4 z.1 N 4 [(0, .ref x0), (1, .int x1), (2, .int z.2.1), (3, .int z.2.2)] []) ∧ (∀ z : (zS × Int32), y = .inr z → zW p l e R s m args below meth c cells slots Q D Ca B 4 z.1 N 29 [(0, .ref x0), (1, .int x1), (2, .int z.2)] [])) : zW p l e R s m args below meth c cells slots Q D Ca B 4 σ N 4 [(0, .ref x0), (1, .int x1), (2, .int u2), (3, .int u3)] [] := by
  unfold sX4_addNumber_4b at hf
  refine z_iload_n C dX4_addNumber_4 rfl 3 rfl ?_
  refine z_bipush C 9 dX4_addNumber_5 (by decide) ?_
  refine z_icmp_ge C 29 dX4_addNumber_7 (by decide) (fun q2 => ?_) (fun q2 => ?_)
  · rw [if_pos q2] at hf
    cases hf
    refine z_sub [0, 1, 2] rfl ?_
    exact hk.2 _ rfl
  · rw [if_neg q2] at hf
    refine z_iload_n C dX4_addNumber_10 rfl 1 rfl ?_
    refine z_bipush C 10 dX4_addNumber_11 (by decide) ?_
    refine z_idiv C dX4_addNumber_13 (by decide) ?_
    refine z_iload_n C dX4_addNumber_14 rfl 2 rfl ?_
    refine z_icmp_lt C 29 dX4_addNumber_15 (by decide) (fun q1 => ?_) (fun q1 => ?_)
    · rw [if_pos q1] at hf
      cases hf
      refine z_sub [0, 1, 2] rfl ?_
      exact hk.2 _ rfl
    · rw [if_neg q1] at hf
      refine z_iload_n C dX4_addNumber_18 rfl 2 rfl ?_
      refine z_bipush C 10 dX4_addNumber_19 (by decide) ?_
      refine z_imul C dX4_addNumber_21 ?_
      refine z_istore_n (lv2 := [(2, .int (u2 * 10)), (0, .ref x0), (1, .int x1), (3, .int u3)]) C dX4_addNumber_22 rfl (by decide) rfl ?_
      refine z_iinc (lv2 := [(3, .int (u3 + 1)), (2, .int (u2 * 10)), (0, .ref x0), (1, .int x1)]) C (u3 + 1) dX4_addNumber_23 3 rfl rfl (by decide) rfl ?_
      refine z_goto C 4 dX4_addNumber_26 (by decide) ?_
      cases hf
      refine z_sub [2, 3, 1, 0] rfl ?_
      exact hk.1 _ rfl

theorem wsX4_addNumber_4 (C : zC p s m args meth c cX4_addNumber RX4 4 D Ca B En) (hRm : zRm R 1 21 cells slots) (x0 : Nat) (x1 : Int32) (n : Nat) (z : (zS × Int32 × Int32)) (x : (zS × Int32)) (hf : zloop (sX4_addNumber_4 x0 x1) n z = some x) (hk : (∀ o : (zS × Int32), x = o → zW p l e R s m args below meth c cells slots Q D Ca B 4 o.1 N 29 [(0, .ref x0), (1, .int x1), (2, .int o.2)] [])) : zW p l e R s m args below meth c cells slots Q D Ca B 4 z.1 N 4 [(0, .ref x0), (1, .int x1), (2, .int z.2.1), (3, .int z.2.2)] [] := by
  refine zloop_W (P := fun z : (zS × Int32 × Int32) => zW p l e R s m args below meth c cells slots Q D Ca B 4 z.1 N 4 [(0, .ref x0), (1, .int x1), (2, .int z.2.1), (3, .int z.2.2)] []) (K := fun x : (zS × Int32) => (∀ o : (zS × Int32), x = o → zW p l e R s m args below meth c cells slots Q D Ca B 4 o.1 N 29 [(0, .ref x0), (1, .int x1), (2, .int o.2)] [])) ?_ n z x hf hk
  intro z y hy h1 h2
  refine wsX4_addNumber_4b C hRm x0 x1 z.1 z.2.1 z.2.2 y hy ⟨fun z2 e => h1 z2 e, fun o e => (h2 _ e) o rfl⟩
def sX4_addNumber_29b (x0 : Nat) (x1 : Int32) (σ : zS) (u2 : Int32) : Option ((zS × Int32) ⊕ zS) :=
  (if u2 ≤ 0 then some (.inr σ) else (znz u2).bind fun d4 => (zck 4 σ x0 (fX4_add σ x0 (48 + ((x1 / u2) - (x1 / u2) / 10 * 10)))).bind fun c5 => some (.inl (c5, u2 / 10)))
def sX4_addNumber_29 (x0 : Nat) (x1 : Int32) (z : (zS × Int32)) : Option ((zS × Int32) ⊕ zS) := sX4_addNumber_29b x0 x1 z.1 z.2
set_option maxRecDepth 100000 in
set_option maxHeartbeats 4000000 in
theorem wsX4_addNumber_29b (C : zC p s m args meth c cX4_addNumber RX4 4 D Ca B En) (hRm : zRm R 1 21 cells slots) (x0 : Nat) (x1 : Int32) (σ : zS) (u2 : Int32) (y : (zS × Int32) ⊕ zS) (hf : sX4_addNumber_29b x0 x1 σ u2 = some y) (hk : (∀ z : (zS × Int32), y = .inl z → zW p l e R s m args below meth c cells slots Q D Ca B 4 z.1 N 29 [(0, .ref x0), (1, .int x1), (2, .int z.2)] []) ∧ (∀ z : zS, y = .inr z → zW p l e R s m args below meth c cells slots Q D Ca B 4 z N 54 [] [])) : zW p l e R s m args below meth c cells slots Q D Ca B 4 σ N 29 [(0, .ref x0), (1, .int x1), (2, .int u2)] [] := by
  unfold sX4_addNumber_29b at hf
  refine z_iload_n C dX4_addNumber_29 rfl 2 rfl ?_
  refine z_if_le C 54 dX4_addNumber_30 (by decide) (fun q6 => ?_) (fun q6 => ?_)
  · rw [if_pos q6] at hf
    cases hf
    refine z_sub [] rfl ?_
    exact hk.2 _ rfl
  · rw [if_neg q6] at hf
    refine z_aload_n C dX4_addNumber_33 rfl 0 rfl ?_
    refine z_bipush C 48 dX4_addNumber_34 (by decide) ?_
    refine z_iload_n C dX4_addNumber_36 rfl 1 rfl ?_
    refine z_iload_n C dX4_addNumber_37 rfl 2 rfl ?_
    obtain ⟨d4, hd4, hf⟩ := zbind hf
    refine z_idiv C dX4_addNumber_38 (znz_ok hd4) ?_
    refine z_bipush C 10 dX4_addNumber_39 (by decide) ?_
    refine z_irem C dX4_addNumber_41 (by decide) ?_
    refine z_iadd C dX4_addNumber_42 ?_
    obtain ⟨c5, hc5, hf⟩ := zbind hf
    obtain ⟨kc5, hc5⟩ := zck_ok hc5
    refine z_callVv (As := [.int (48 + ((x1 / u2) - (x1 / u2) / 10 * 10))]) (F0 := 1) (L0 := 21) C (mX4_add l D Ca B En C.2.2.2.2.2.2.2.1 σ N x0 (48 + ((x1 / u2) - (x1 / u2) / 10 * 10)) _ hc5) hRm kc5 rfl kw_1232 kw_4 kw_1237 kw_1230 kw_1231 hyX4_add (Nat.le_of_ble_eq_true rfl) (Nat.le_of_ble_eq_true rfl) rfl rfl (Nat.le_of_ble_eq_true rfl) dX4_addNumber_43 ?_
    refine z_iload_n C dX4_addNumber_46 rfl 2 rfl ?_
    refine z_bipush C 10 dX4_addNumber_47 (by decide) ?_
    refine z_idiv C dX4_addNumber_49 (by decide) ?_
    refine z_istore_n (lv2 := [(2, .int (u2 / 10)), (0, .ref x0), (1, .int x1)]) C dX4_addNumber_50 rfl (by decide) rfl ?_
    refine z_goto C 29 dX4_addNumber_51 (by decide) ?_
    cases hf
    refine z_sub [1, 2, 0] rfl ?_
    exact hk.1 _ rfl

theorem wsX4_addNumber_29 (C : zC p s m args meth c cX4_addNumber RX4 4 D Ca B En) (hRm : zRm R 1 21 cells slots) (x0 : Nat) (x1 : Int32) (n : Nat) (z : (zS × Int32)) (x : zS) (hf : zloop (sX4_addNumber_29 x0 x1) n z = some x) (hk : (∀ o : zS, x = o → zW p l e R s m args below meth c cells slots Q D Ca B 4 o N 54 [] [])) : zW p l e R s m args below meth c cells slots Q D Ca B 4 z.1 N 29 [(0, .ref x0), (1, .int x1), (2, .int z.2)] [] := by
  refine zloop_W (P := fun z : (zS × Int32) => zW p l e R s m args below meth c cells slots Q D Ca B 4 z.1 N 29 [(0, .ref x0), (1, .int x1), (2, .int z.2)] []) (K := fun x : zS => (∀ o : zS, x = o → zW p l e R s m args below meth c cells slots Q D Ca B 4 o N 54 [] [])) ?_ n z x hf hk
  intro z y hy h1 h2
  refine wsX4_addNumber_29b C hRm x0 x1 z.1 z.2 y hy ⟨fun z2 e => h1 z2 e, fun o e => (h2 _ e) o rfl⟩
def jX4_addNumber_29 (σ : zS) (x0 : Nat) (x1 : Int32) (x2 : Int32)  : Option zS :=
  (zloop (sX4_addNumber_29 x0 x1) zfuel (σ, x2)).bind fun o7 => some o7
set_option maxRecDepth 100000 in
set_option maxHeartbeats 4000000 in
theorem wjX4_addNumber_29 (C : zC p s m args meth c cX4_addNumber RX4 4 D Ca B En) (hRm : zRm R 1 21 cells slots) (σ : zS) (x0 : Nat) (x1 : Int32) (x2 : Int32)  (τ : zS) (hf : jX4_addNumber_29 σ x0 x1 x2  = some τ) (hq : ∀ (pc : Nat) (lv : List (Nat × Value)), decode cX4_addNumber pc = .ok (.return_, 1) → zW p l e R s m args below meth c cells slots Q D Ca B 4 τ N pc lv []) : zW p l e R s m args below meth c cells slots Q D Ca B 4 σ N 29 [(0, .ref x0), (1, .int x1), (2, .int x2)] [] := by
  unfold jX4_addNumber_29 at hf
  obtain ⟨o7, ho7, hf⟩ := zbind hf
  refine z_sub [0, 1, 2] rfl ?_
  refine wsX4_addNumber_29 C hRm _ _ zfuel (σ, x2) o7 ho7 ?_
  intro z9 e9
  subst e9
  cases hf
  exact hq _ _ dX4_addNumber_54

def fX4_addNumber (σ : zS) (x0 : Nat) (x1 : Int32) : Option zS :=
  (zloop (sX4_addNumber_4 x0 x1) zfuel (σ, 1, 1)).bind fun o3 => jX4_addNumber_29 o3.1 x0 x1 o3.2
set_option maxRecDepth 100000 in
set_option maxHeartbeats 4000000 in
theorem wfX4_addNumber (C : zC p s m args meth c cX4_addNumber RX4 4 D Ca B En) (hRm : zRm R 1 21 cells slots) (σ : zS) (x0 : Nat) (x1 : Int32) (τ : zS) (hf : fX4_addNumber σ x0 x1 = some τ) (hq : ∀ (pc : Nat) (lv : List (Nat × Value)), decode cX4_addNumber pc = .ok (.return_, 1) → zW p l e R s m args below meth c cells slots Q D Ca B 4 τ N pc lv []) : zW p l e R s m args below meth c cells slots Q D Ca B 4 σ N 0 [(0, .ref x0), (1, .int x1)] [] := by
  unfold fX4_addNumber at hf
  refine z_iconst C 1 dX4_addNumber_0 (by decide) ?_
  refine z_istore_n (lv2 := [(2, .int 1), (0, .ref x0), (1, .int x1)]) C dX4_addNumber_1 rfl (by decide) rfl ?_
  refine z_iconst C 1 dX4_addNumber_2 (by decide) ?_
  refine z_istore_n (lv2 := [(3, .int 1), (2, .int 1), (0, .ref x0), (1, .int x1)]) C dX4_addNumber_3 rfl (by decide) rfl ?_
  obtain ⟨o3, ho3, hf⟩ := zbind hf
  refine z_sub [2, 3, 1, 0] rfl ?_
  refine wsX4_addNumber_4 C hRm _ _ zfuel (σ, 1, 1) o3 ho3 ?_
  intro z9 e9
  subst e9
  refine z_sub [0, 1, 2] rfl ?_
  exact wjX4_addNumber_29 C hRm _ _ _ _  _ hf hq

theorem mX4_addNumber (l : Launch) (D : va_G) (Ca : Nat → ClassId) (B : Nat) (En : State → Prop) (hE : zEk B En) (σ : zS) (N : Nat) (x0 : Nat) (x1 : Int32) (X : zS) (hf : fX4_addNumber σ x0 x1 = some X) : zMv l D Ca B En yX4_addNumber cX4_addNumber 4 (Option.none : Option Jvm.ClassFile.FieldType) 1 21 [.ref x0, .int x1] σ N X () :=
  zMet_v (own := RX4) hE (by decide +kernel) rfl (Nat.le_of_ble_eq_true rfl) (fun p e s m args below meth c C hr hRm => wfX4_addNumber C hRm σ x0 x1 X hf (fun pc lv hd => zfin_v (r := ()) C hr hd))
theorem dX7_clear_0 : decode cX7_clear 0 = .ok (.aload_n 0, 1) := by decide +kernel
theorem dX7_clear_1 : decode cX7_clear 1 = .ok (.iconst 0, 1) := by decide +kernel
theorem dX7_clear_2 : decode cX7_clear 2 = .ok (.putfield 40, 3) := by decide +kernel
theorem dX7_clear_5 : decode cX7_clear 5 = .ok (.aload_n 0, 1) := by decide +kernel
theorem dX7_clear_6 : decode cX7_clear 6 = .ok (.getfield 9, 3) := by decide +kernel
theorem dX7_clear_9 : decode cX7_clear 9 = .ok (.iconst 0, 1) := by decide +kernel
theorem dX7_clear_10 : decode cX7_clear 10 = .ok (.invokestatic 44, 3) := by decide +kernel
theorem dX7_clear_13 : decode cX7_clear 13 = .ok (.aload_n 0, 1) := by decide +kernel
theorem dX7_clear_14 : decode cX7_clear 14 = .ok (.getfield 15, 3) := by decide +kernel
theorem dX7_clear_17 : decode cX7_clear 17 = .ok (.iconst 0, 1) := by decide +kernel
theorem dX7_clear_18 : decode cX7_clear 18 = .ok (.invokestatic 44, 3) := by decide +kernel
theorem dX7_clear_21 : decode cX7_clear 21 = .ok (.aload_n 0, 1) := by decide +kernel
theorem dX7_clear_22 : decode cX7_clear 22 = .ok (.getfield 18, 3) := by decide +kernel
theorem dX7_clear_25 : decode cX7_clear 25 = .ok (.iconst 0, 1) := by decide +kernel
theorem dX7_clear_26 : decode cX7_clear 26 = .ok (.invokestatic 44, 3) := by decide +kernel
theorem dX7_clear_29 : decode cX7_clear 29 = .ok (.aload_n 0, 1) := by decide +kernel
theorem dX7_clear_30 : decode cX7_clear 30 = .ok (.getfield 28, 3) := by decide +kernel
theorem dX7_clear_33 : decode cX7_clear 33 = .ok (.iconst (-1), 1) := by decide +kernel
theorem dX7_clear_34 : decode cX7_clear 34 = .ok (.invokestatic 44, 3) := by decide +kernel
theorem dX7_clear_37 : decode cX7_clear 37 = .ok (.return_, 1) := by decide +kernel
theorem hyX7_clear : yX7_clear.cls ≠ "java/lang/invoke/MethodHandle" ∧ yX7_clear.cls ≠ "java/lang/invoke/VarHandle" ∧ (parseMethodDescriptor yX7_clear.desc).map (fun d => d.parameters.length) = some 0 := ⟨by decide +kernel, by decide +kernel, by decide +kernel⟩
def fX7_clear (σ : zS) (x0 : Nat) : Option zS :=
  (zpI 7 0 σ x0 0).bind fun σ1 => (zgR 7 2 σ1 x0).bind fun v2 => (fX9_fillRow σ1 v2 0).bind fun c3 => (zgR 7 3 c3 x0).bind fun v4 => (fX9_fillRow c3 v4 0).bind fun c5 => (zgR 7 4 c5 x0).bind fun v6 => (fX9_fillRow c5 v6 0).bind fun c7 => (zgR 7 7 c7 x0).bind fun v8 => (fX9_fillRow c7 v8 ((-1))).bind fun c9 => some c9
set_option maxRecDepth 100000 in
set_option maxHeartbeats 4000000 in
theorem wfX7_clear (C : zC p s m args meth c cX7_clear RX7 1 D Ca B En) (hRm : zRm R 1 22 cells slots) (σ : zS) (x0 : Nat) (τ : zS) (hf : fX7_clear σ x0 = some τ) (hq : ∀ (pc : Nat) (lv : List (Nat × Value)), decode cX7_clear pc = .ok (.return_, 1) → zW p l e R s m args below meth c cells slots Q D Ca B 1 τ N pc lv []) : zW p l e R s m args below meth c cells slots Q D Ca B 1 σ N 0 [(0, .ref x0)] [] := by
  unfold fX7_clear at hf
  refine z_aload_n C dX7_clear_0 rfl 0 rfl ?_
  refine z_iconst C 0 dX7_clear_1 (by decide) ?_
  obtain ⟨σ1, hσ1, hf⟩ := zbind hf
  refine gp_RX7_40 C hσ1 dX7_clear_2 ?_
  refine z_aload_n C dX7_clear_5 rfl 0 rfl ?_
  obtain ⟨v2, hv2, hf⟩ := zbind hf
  refine gf_RX7_9 C hv2 dX7_clear_6 ?_
  refine z_iconst C 0 dX7_clear_9 (by decide) ?_
  obtain ⟨c3, hc3, hf⟩ := zbind hf
  refine z_callSNv (host := "BarrierFlow") (As := [.ref v2, .int 0]) (F0 := 1) (L0 := 22) C (mX9_fillRow l D Ca B En C.2.2.2.2.2.2.2.1 σ1 N v2 0 _ hc3) hRm kw_167 kw_1 (by decide) kw_166 hyX9_fillRow (Nat.le_of_ble_eq_true rfl) (Nat.le_of_ble_eq_true rfl) rfl rfl (Nat.le_of_ble_eq_true rfl) dX7_clear_10 ?_
  refine z_aload_n C dX7_clear_13 rfl 0 rfl ?_
  obtain ⟨v4, hv4, hf⟩ := zbind hf
  refine gf_RX7_15 C hv4 dX7_clear_14 ?_
  refine z_iconst C 0 dX7_clear_17 (by decide) ?_
  obtain ⟨c5, hc5, hf⟩ := zbind hf
  refine z_callSNv (host := "BarrierFlow") (As := [.ref v4, .int 0]) (F0 := 1) (L0 := 22) C (mX9_fillRow l D Ca B En C.2.2.2.2.2.2.2.1 c3 N v4 0 _ hc5) hRm kw_167 kw_1 (by decide) kw_166 hyX9_fillRow (Nat.le_of_ble_eq_true rfl) (Nat.le_of_ble_eq_true rfl) rfl rfl (Nat.le_of_ble_eq_true rfl) dX7_clear_18 ?_
  refine z_aload_n C dX7_clear_21 rfl 0 rfl ?_
  obtain ⟨v6, hv6, hf⟩ := zbind hf
  refine gf_RX7_18 C hv6 dX7_clear_22 ?_
  refine z_iconst C 0 dX7_clear_25 (by decide) ?_
  obtain ⟨c7, hc7, hf⟩ := zbind hf
  refine z_callSNv (host := "BarrierFlow") (As := [.ref v6, .int 0]) (F0 := 1) (L0 := 22) C (mX9_fillRow l D Ca B En C.2.2.2.2.2.2.2.1 c5 N v6 0 _ hc7) hRm kw_167 kw_1 (by decide) kw_166 hyX9_fillRow (Nat.le_of_ble_eq_true rfl) (Nat.le_of_ble_eq_true rfl) rfl rfl (Nat.le_of_ble_eq_true rfl) dX7_clear_26 ?_
  refine z_aload_n C dX7_clear_29 rfl 0 rfl ?_
  obtain ⟨v8, hv8, hf⟩ := zbind hf
  refine gf_RX7_28 C hv8 dX7_clear_30 ?_
  refine z_iconst C (-1) dX7_clear_33 (by decide) ?_
  obtain ⟨c9, hc9, hf⟩ := zbind hf
  refine z_callSNv (host := "BarrierFlow") (As := [.ref v8, .int ((-1))]) (F0 := 1) (L0 := 22) C (mX9_fillRow l D Ca B En C.2.2.2.2.2.2.2.1 c7 N v8 ((-1)) _ hc9) hRm kw_167 kw_1 (by decide) kw_166 hyX9_fillRow (Nat.le_of_ble_eq_true rfl) (Nat.le_of_ble_eq_true rfl) rfl rfl (Nat.le_of_ble_eq_true rfl) dX7_clear_34 ?_
  cases hf
  exact hq _ _ dX7_clear_37

theorem mX7_clear (l : Launch) (D : va_G) (Ca : Nat → ClassId) (B : Nat) (En : State → Prop) (hE : zEk B En) (σ : zS) (N : Nat) (x0 : Nat) (X : zS) (hf : fX7_clear σ x0 = some X) : zMv l D Ca B En yX7_clear cX7_clear 1 (Option.none : Option Jvm.ClassFile.FieldType) 1 22 [.ref x0] σ N X () :=
  zMet_v (own := RX7) hE (by decide +kernel) rfl (Nat.le_of_ble_eq_true rfl) (fun p e s m args below meth c C hr hRm => wfX7_clear C hRm σ x0 X hf (fun pc lv hd => zfin_v (r := ()) C hr hd))
theorem dX5_kindAt_0 : decode cX5_kindAt 0 = .ok (.iload_n 1, 1) := by decide +kernel
theorem dX5_kindAt_1 : decode cX5_kindAt 1 = .ok (.aload_n 0, 1) := by decide +kernel
theorem dX5_kindAt_2 : decode cX5_kindAt 2 = .ok (.getfield 15, 3) := by decide +kernel
theorem dX5_kindAt_5 : decode cX5_kindAt 5 = .ok (.getfield 162, 3) := by decide +kernel
theorem dX5_kindAt_8 : decode cX5_kindAt 8 = .ok (.if_icmp .lt 5, 3) := by decide +kernel
theorem dX5_kindAt_11 : decode cX5_kindAt 11 = .ok (.iconst 0, 1) := by decide +kernel
theorem dX5_kindAt_12 : decode cX5_kindAt 12 = .ok (.ireturn, 1) := by decide +kernel
theorem dX5_kindAt_13 : decode cX5_kindAt 13 = .ok (.aload_n 0, 1) := by decide +kernel
theorem dX5_kindAt_14 : decode cX5_kindAt 14 = .ok (.getfield 15, 3) := by decide +kernel
theorem dX5_kindAt_17 : decode cX5_kindAt 17 = .ok (.iload_n 1, 1) := by decide +kernel
theorem dX5_kindAt_18 : decode cX5_kindAt 18 = .ok (.invokevirtual 131, 3) := by decide +kernel
theorem dX5_kindAt_21 : decode cX5_kindAt 21 = .ok (.istore_n 2, 1) := by decide +kernel
theorem dX5_kindAt_22 : decode cX5_kindAt 22 = .ok (.iload_n 2, 1) := by decide +kernel
theorem dX5_kindAt_23 : decode cX5_kindAt 23 = .ok (.bipush 97, 2) := by decide +kernel
theorem dX5_kindAt_25 : decode cX5_kindAt 25 = .ok (.if_icmp .lt 11, 3) := by decide +kernel
theorem dX5_kindAt_28 : decode cX5_kindAt 28 = .ok (.iload_n 2, 1) := by decide +kernel
theorem dX5_kindAt_29 : decode cX5_kindAt 29 = .ok (.bipush 122, 2) := by decide +kernel
theorem dX5_kindAt_31 : decode cX5_kindAt 31 = .ok (.if_icmp .gt 5, 3) := by decide +kernel
theorem dX5_kindAt_34 : decode cX5_kindAt 34 = .ok (.iconst 1, 1) := by decide +kernel
theorem dX5_kindAt_35 : decode cX5_kindAt 35 = .ok (.ireturn, 1) := by decide +kernel
theorem dX5_kindAt_36 : decode cX5_kindAt 36 = .ok (.iload_n 2, 1) := by decide +kernel
theorem dX5_kindAt_37 : decode cX5_kindAt 37 = .ok (.bipush 48, 2) := by decide +kernel
theorem dX5_kindAt_39 : decode cX5_kindAt 39 = .ok (.if_icmp .lt 11, 3) := by decide +kernel
theorem dX5_kindAt_42 : decode cX5_kindAt 42 = .ok (.iload_n 2, 1) := by decide +kernel
theorem dX5_kindAt_43 : decode cX5_kindAt 43 = .ok (.bipush 57, 2) := by decide +kernel
theorem dX5_kindAt_45 : decode cX5_kindAt 45 = .ok (.if_icmp .gt 5, 3) := by decide +kernel
theorem dX5_kindAt_48 : decode cX5_kindAt 48 = .ok (.iconst 2, 1) := by decide +kernel
theorem dX5_kindAt_49 : decode cX5_kindAt 49 = .ok (.ireturn, 1) := by decide +kernel
theorem dX5_kindAt_50 : decode cX5_kindAt 50 = .ok (.iload_n 2, 1) := by decide +kernel
theorem dX5_kindAt_51 : decode cX5_kindAt 51 = .ok (.bipush 59, 2) := by decide +kernel
theorem dX5_kindAt_53 : decode cX5_kindAt 53 = .ok (.if_icmp .ne 7, 3) := by decide +kernel
theorem dX5_kindAt_56 : decode cX5_kindAt 56 = .ok (.iconst 3, 1) := by decide +kernel
theorem dX5_kindAt_57 : decode cX5_kindAt 57 = .ok (.goto 4, 3) := by decide +kernel
theorem dX5_kindAt_60 : decode cX5_kindAt 60 = .ok (.iconst 4, 1) := by decide +kernel
theorem dX5_kindAt_61 : decode cX5_kindAt 61 = .ok (.ireturn, 1) := by decide +kernel
theorem hyX5_kindAt : yX5_kindAt.cls ≠ "java/lang/invoke/MethodHandle" ∧ yX5_kindAt.cls ≠ "java/lang/invoke/VarHandle" ∧ (parseMethodDescriptor yX5_kindAt.desc).map (fun d => d.parameters.length) = some 1 := ⟨by decide +kernel, by decide +kernel, by decide +kernel⟩
def jX5_kindAt_50 (σ : zS) (x2 : Int32)  : Option (zS × Int32) :=
  (if x2 = 59 then some (σ, 3) else some (σ, 4))
set_option maxRecDepth 100000 in
set_option maxHeartbeats 4000000 in
theorem wjX5_kindAt_50 (C : zC p s m args meth c cX5_kindAt RX5 3 D Ca B En) (hRm : zRm R 1 21 cells slots) (σ : zS) (x2 : Int32)  (τ : zS) (r : Int32) (hf : jX5_kindAt_50 σ x2  = some (τ, r)) (hq : ∀ (pc : Nat) (lv : List (Nat × Value)), decode cX5_kindAt pc = .ok (.ireturn, 1) → zW p l e R s m args below meth c cells slots Q D Ca B 3 τ N pc lv [.int r]) : zW p l e R s m args below meth c cells slots Q D Ca B 3 σ N 50 [(2, .int x2)] [] := by
  unfold jX5_kindAt_50 at hf
  refine z_iload_n C dX5_kindAt_50 rfl 0 rfl ?_
  refine z_bipush C 59 dX5_kindAt_51 (by decide) ?_
  refine z_icmp_ne C 60 dX5_kindAt_53 (by decide) (fun q5 => ?_) (fun q5 => ?_)
  · rw [if_neg q5] at hf
    refine z_iconst C 4 dX5_kindAt_60 (by decide) ?_
    cases hf
    exact hq _ _ dX5_kindAt_61
  · rw [if_pos q5] at hf
    refine z_iconst C 3 dX5_kindAt_56 (by decide) ?_
    refine z_goto C 61 dX5_kindAt_57 (by decide) ?_
    cases hf
    exact hq _ _ dX5_kindAt_61

def jX5_kindAt_36 (σ : zS) (x2 : Int32)  : Option (zS × Int32) :=
  (if x2 < 48 then jX5_kindAt_50 σ x2 else (if 57 < x2 then jX5_kindAt_50 σ x2 else some (σ, 2)))
set_option maxRecDepth 100000 in
set_option maxHeartbeats 4000000 in
theorem wjX5_kindAt_36 (C : zC p s m args meth c cX5_kindAt RX5 3 D Ca B En) (hRm : zRm R 1 21 cells slots) (σ : zS) (x2 : Int32)  (τ : zS) (r : Int32) (hf : jX5_kindAt_36 σ x2  = some (τ, r)) (hq : ∀ (pc : Nat) (lv : List (Nat × Value)), decode cX5_kindAt pc = .ok (.ireturn, 1) → zW p l e R s m args below meth c cells slots Q D Ca B 3 τ N pc lv [.int r]) : zW p l e R s m args below meth c cells slots Q D Ca B 3 σ N 36 [(2, .int x2)] [] := by
  unfold jX5_kindAt_36 at hf
  refine z_iload_n C dX5_kindAt_36 rfl 0 rfl ?_
  refine z_bipush C 48 dX5_kindAt_37 (by decide) ?_
  refine z_icmp_lt C 50 dX5_kindAt_39 (by decide) (fun q7 => ?_) (fun q7 => ?_)
  · rw [if_pos q7] at hf
    refine z_sub [0] rfl ?_
    exact wjX5_kindAt_50 C hRm _ _  _ _ hf hq
  · rw [if_neg q7] at hf
    refine z_iload_n C dX5_kindAt_42 rfl 0 rfl ?_
    refine z_bipush C 57 dX5_kindAt_43 (by decide) ?_
    refine z_icmp_gt C 50 dX5_kindAt_45 (by decide) (fun q6 => ?_) (fun q6 => ?_)
    · rw [if_pos q6] at hf
      refine z_sub [0] rfl ?_
      exact wjX5_kindAt_50 C hRm _ _  _ _ hf hq
    · rw [if_neg q6] at hf
      refine z_iconst C 2 dX5_kindAt_48 (by decide) ?_
      cases hf
      exact hq _ _ dX5_kindAt_49

def fX5_kindAt (σ : zS) (x0 : Nat) (x1 : Int32) : Option (zS × Int32) :=
  (zgR 5 2 σ x0).bind fun v1 => (zgI 2 1 σ v1).bind fun v2 => (if x1 < v2 then (zgR 5 2 σ x0).bind fun v3 => (zck 2 σ v3 (fX2_byteAt σ v3 x1)).bind fun c4 => (if c4.2 < 97 then jX5_kindAt_36 c4.1 c4.2 else (if 122 < c4.2 then jX5_kindAt_36 c4.1 c4.2 else some (c4.1, 1))) else some (σ, 0))
set_option maxRecDepth 100000 in
set_option maxHeartbeats 4000000 in
theorem wfX5_kindAt (C : zC p s m args meth c cX5_kindAt RX5 3 D Ca B En) (hRm : zRm R 1 21 cells slots) (σ : zS) (x0 : Nat) (x1 : Int32) (τ : zS) (r : Int32) (hf : fX5_kindAt σ x0 x1 = some (τ, r)) (hq : ∀ (pc : Nat) (lv : List (Nat × Value)), decode cX5_kindAt pc = .ok (.ireturn, 1) → zW p l e R s m args below meth c cells slots Q D Ca B 3 τ N pc lv [.int r]) : zW p l e R s m args below meth c cells slots Q D Ca B 3 σ N 0 [(0, .ref x0), (1, .int x1)] [] := by
  unfold fX5_kindAt at hf
  refine z_iload_n C dX5_kindAt_0 rfl 1 rfl ?_
  refine z_aload_n C dX5_kindAt_1 rfl 0 rfl ?_
  obtain ⟨v1, hv1, hf⟩ := zbind hf
  refine gf_RX5_15 C hv1 dX5_kindAt_2 ?_
  obtain ⟨v2, hv2, hf⟩ := zbind hf
  refine gf_RX5_162 C hv2 dX5_kindAt_5 ?_
  refine z_icmp_lt C 13 dX5_kindAt_8 (by decide) (fun q10 => ?_) (fun q10 => ?_)
  · rw [if_pos q10] at hf
    refine z_aload_n C dX5_kindAt_13 rfl 0 rfl ?_
    obtain ⟨v3, hv3, hf⟩ := zbind hf
    refine gf_RX5_15 C hv3 dX5_kindAt_14 ?_
    refine z_iload_n C dX5_kindAt_17 rfl 1 rfl ?_
    obtain ⟨c4, hc4, hf⟩ := zbind hf
    obtain ⟨kc4, hc4⟩ := zck_ok hc4
    refine z_callVi (As := [.int x1]) (F0 := 1) (L0 := 21) C (mX2_byteAt l D Ca B En C.2.2.2.2.2.2.2.1 σ N v3 x1 _ hc4) hRm kc4 rfl kw_512 kw_2 kw_509 kw_510 kw_511 hyX2_byteAt (Nat.le_of_ble_eq_true rfl) (Nat.le_of_ble_eq_true rfl) rfl rfl (Nat.le_of_ble_eq_true rfl) dX5_kindAt_18 ?_
    refine z_istore_n (lv2 := [(2, .int c4.2), (0, .ref x0), (1, .int x1)]) C dX5_kindAt_21 rfl (by decide) rfl ?_
    refine z_iload_n C dX5_kindAt_22 rfl 0 rfl ?_
    refine z_bipush C 97 dX5_kindAt_23 (by decide) ?_
    refine z_icmp_lt C 36 dX5_kindAt_25 (by decide) (fun q9 => ?_) (fun q9 => ?_)
    · rw [if_pos q9] at hf
      refine z_sub [0] rfl ?_
      exact wjX5_kindAt_36 C hRm _ _  _ _ hf hq
    · rw [if_neg q9] at hf
      refine z_iload_n C dX5_kindAt_28 rfl 0 rfl ?_
      refine z_bipush C 122 dX5_kindAt_29 (by decide) ?_
      refine z_icmp_gt C 36 dX5_kindAt_31 (by decide) (fun q8 => ?_) (fun q8 => ?_)
      · rw [if_pos q8] at hf
        refine z_sub [0] rfl ?_
        exact wjX5_kindAt_36 C hRm _ _  _ _ hf hq
      · rw [if_neg q8] at hf
        refine z_iconst C 1 dX5_kindAt_34 (by decide) ?_
        cases hf
        exact hq _ _ dX5_kindAt_35
  · rw [if_neg q10] at hf
    refine z_iconst C 0 dX5_kindAt_11 (by decide) ?_
    cases hf
    exact hq _ _ dX5_kindAt_12

theorem mX5_kindAt (l : Launch) (D : va_G) (Ca : Nat → ClassId) (B : Nat) (En : State → Prop) (hE : zEk B En) (σ : zS) (N : Nat) (x0 : Nat) (x1 : Int32) (X : zS × Int32) (hf : fX5_kindAt σ x0 x1 = some X) : zMi l D Ca B En yX5_kindAt cX5_kindAt 3 (Option.some Jvm.ClassFile.FieldType.int) 1 21 [.ref x0, .int x1] σ N X.1 X.2 :=
  zMet_i (own := RX5) hE (by decide +kernel) rfl (Nat.le_of_ble_eq_true rfl) (fun p e s m args below meth c C hr hRm => wfX5_kindAt C hRm σ x0 x1 X.1 X.2 hf (fun pc lv hd => zfin_i C hr hd))
theorem dX5_advance_0 : decode cX5_advance 0 = .ok (.aload_n 0, 1) := by decide +kernel
theorem dX5_advance_1 : decode cX5_advance 1 = .ok (.aload_n 0, 1) := by decide +kernel
theorem dX5_advance_2 : decode cX5_advance 2 = .ok (.getfield 31, 3) := by decide +kernel
theorem dX5_advance_5 : decode cX5_advance 5 = .ok (.putfield 114, 3) := by decide +kernel
theorem dX5_advance_8 : decode cX5_advance 8 = .ok (.aload_n 0, 1) := by decide +kernel
theorem dX5_advance_9 : decode cX5_advance 9 = .ok (.getfield 114, 3) := by decide +kernel
theorem dX5_advance_12 : decode cX5_advance 12 = .ok (.aload_n 0, 1) := by decide +kernel
theorem dX5_advance_13 : decode cX5_advance 13 = .ok (.getfield 15, 3) := by decide +kernel
theorem dX5_advance_16 : decode cX5_advance 16 = .ok (.getfield 162, 3) := by decide +kernel
theorem dX5_advance_19 : decode cX5_advance 19 = .ok (.if_icmp .ge 48, 3) := by decide +kernel
theorem dX5_advance_22 : decode cX5_advance 22 = .ok (.aload_n 0, 1) := by decide +kernel
theorem dX5_advance_23 : decode cX5_advance 23 = .ok (.getfield 15, 3) := by decide +kernel
theorem dX5_advance_26 : decode cX5_advance 26 = .ok (.aload_n 0, 1) := by decide +kernel
theorem dX5_advance_27 : decode cX5_advance 27 = .ok (.getfield 114, 3) := by decide +kernel
theorem dX5_advance_30 : decode cX5_advance 30 = .ok (.invokevirtual 131, 3) := by decide +kernel
theorem dX5_advance_33 : decode cX5_advance 33 = .ok (.bipush 32, 2) := by decide +kernel
theorem dX5_advance_35 : decode cX5_advance 35 = .ok (.if_icmp .eq 19, 3) := by decide +kernel
theorem dX5_advance_38 : decode cX5_advance 38 = .ok (.aload_n 0, 1) := by decide +kernel
theorem dX5_advance_39 : decode cX5_advance 39 = .ok (.getfield 15, 3) := by decide +kernel
theorem dX5_advance_42 : decode cX5_advance 42 = .ok (.aload_n 0, 1) := by decide +kernel
theorem dX5_advance_43 : decode cX5_advance 43 = .ok (.getfield 114, 3) := by decide +kernel
theorem dX5_advance_46 : decode cX5_advance 46 = .ok (.invokevirtual 131, 3) := by decide +kernel
theorem dX5_advance_49 : decode cX5_advance 49 = .ok (.bipush 10, 2) := by decide +kernel
theorem dX5_advance_51 : decode cX5_advance 51 = .ok (.if_icmp .ne 16, 3) := by decide +kernel
theorem dX5_advance_54 : decode cX5_advance 54 = .ok (.aload_n 0, 1) := by decide +kernel
theorem dX5_advance_55 : decode cX5_advance 55 = .ok (.dup, 1) := by decide +kernel
theorem dX5_advance_56 : decode cX5_advance 56 = .ok (.getfield 114, 3) := by decide +kernel
theorem dX5_advance_59 : decode cX5_advance 59 = .ok (.iconst 1, 1) := by decide +kernel
theorem dX5_advance_60 : decode cX5_advance 60 = .ok (.iadd, 1) := by decide +kernel
theorem dX5_advance_61 : decode cX5_advance 61 = .ok (.putfield 114, 3) := by decide +kernel
theorem dX5_advance_64 : decode cX5_advance 64 = .ok (.goto (-56), 3) := by decide +kernel
theorem dX5_advance_67 : decode cX5_advance 67 = .ok (.aload_n 0, 1) := by decide +kernel
theorem dX5_advance_68 : decode cX5_advance 68 = .ok (.aload_n 0, 1) := by decide +kernel
theorem dX5_advance_69 : decode cX5_advance 69 = .ok (.aload_n 0, 1) := by decide +kernel
theorem dX5_advance_70 : decode cX5_advance 70 = .ok (.getfield 114, 3) := by decide +kernel
theorem dX5_advance_73 : decode cX5_advance 73 = .ok (.invokevirtual 164, 3) := by decide +kernel
theorem dX5_advance_76 : decode cX5_advance 76 = .ok (.putfield 37, 3) := by decide +kernel
theorem dX5_advance_79 : decode cX5_advance 79 = .ok (.aload_n 0, 1) := by decide +kernel
theorem dX5_advance_80 : decode cX5_advance 80 = .ok (.aload_n 0, 1) := by decide +kernel
theorem dX5_advance_81 : decode cX5_advance 81 = .ok (.getfield 114, 3) := by decide +kernel
theorem dX5_advance_84 : decode cX5_advance 84 = .ok (.putfield 31, 3) := by decide +kernel
theorem dX5_advance_87 : decode cX5_advance 87 = .ok (.aload_n 0, 1) := by decide +kernel
theorem dX5_advance_88 : decode cX5_advance 88 = .ok (.getfield 37, 3) := by decide +kernel
theorem dX5_advance_91 : decode cX5_advance 91 = .ok (.ifCond .ne 4, 3) := by decide +kernel
theorem dX5_advance_94 : decode cX5_advance 94 = .ok (.return_, 1) := by decide +kernel
theorem dX5_advance_95 : decode cX5_advance 95 = .ok (.aload_n 0, 1) := by decide +kernel
theorem dX5_advance_96 : decode cX5_advance 96 = .ok (.dup, 1) := by decide +kernel
theorem dX5_advance_97 : decode cX5_advance 97 = .ok (.getfield 31, 3) := by decide +kernel
theorem dX5_advance_100 : decode cX5_advance 100 = .ok (.iconst 1, 1) := by decide +kernel
theorem dX5_advance_101 : decode cX5_advance 101 = .ok (.iadd, 1) := by decide +kernel
theorem dX5_advance_102 : decode cX5_advance 102 = .ok (.putfield 31, 3) := by decide +kernel
theorem dX5_advance_105 : decode cX5_advance 105 = .ok (.aload_n 0, 1) := by decide +kernel
theorem dX5_advance_106 : decode cX5_advance 106 = .ok (.getfield 37, 3) := by decide +kernel
theorem dX5_advance_109 : decode cX5_advance 109 = .ok (.iconst 1, 1) := by decide +kernel
theorem dX5_advance_110 : decode cX5_advance 110 = .ok (.if_icmp .eq 11, 3) := by decide +kernel
theorem dX5_advance_113 : decode cX5_advance 113 = .ok (.aload_n 0, 1) := by decide +kernel
theorem dX5_advance_114 : decode cX5_advance 114 = .ok (.getfield 37, 3) := by decide +kernel
theorem dX5_advance_117 : decode cX5_advance 117 = .ok (.iconst 2, 1) := by decide +kernel
theorem dX5_advance_118 : decode cX5_advance 118 = .ok (.if_icmp .ne 45, 3) := by decide +kernel
theorem dX5_advance_121 : decode cX5_advance 121 = .ok (.aload_n 0, 1) := by decide +kernel
theorem dX5_advance_122 : decode cX5_advance 122 = .ok (.getfield 31, 3) := by decide +kernel
theorem dX5_advance_125 : decode cX5_advance 125 = .ok (.aload_n 0, 1) := by decide +kernel
theorem dX5_advance_126 : decode cX5_advance 126 = .ok (.getfield 15, 3) := by decide +kernel
theorem dX5_advance_129 : decode cX5_advance 129 = .ok (.getfield 162, 3) := by decide +kernel
theorem dX5_advance_132 : decode cX5_advance 132 = .ok (.if_icmp .ge 31, 3) := by decide +kernel
theorem dX5_advance_135 : decode cX5_advance 135 = .ok (.aload_n 0, 1) := by decide +kernel
theorem dX5_advance_136 : decode cX5_advance 136 = .ok (.aload_n 0, 1) := by decide +kernel
theorem dX5_advance_137 : decode cX5_advance 137 = .ok (.getfield 31, 3) := by decide +kernel
theorem dX5_advance_140 : decode cX5_advance 140 = .ok (.invokevirtual 164, 3) := by decide +kernel
theorem dX5_advance_143 : decode cX5_advance 143 = .ok (.aload_n 0, 1) := by decide +kernel
theorem dX5_advance_144 : decode cX5_advance 144 = .ok (.getfield 37, 3) := by decide +kernel
theorem dX5_advance_147 : decode cX5_advance 147 = .ok (.if_icmp .ne 16, 3) := by decide +kernel
theorem dX5_advance_150 : decode cX5_advance 150 = .ok (.aload_n 0, 1) := by decide +kernel
theorem dX5_advance_151 : decode cX5_advance 151 = .ok (.dup, 1) := by decide +kernel
theorem dX5_advance_152 : decode cX5_advance 152 = .ok (.getfield 31, 3) := by decide +kernel
theorem dX5_advance_155 : decode cX5_advance 155 = .ok (.iconst 1, 1) := by decide +kernel
theorem dX5_advance_156 : decode cX5_advance 156 = .ok (.iadd, 1) := by decide +kernel
theorem dX5_advance_157 : decode cX5_advance 157 = .ok (.putfield 31, 3) := by decide +kernel
theorem dX5_advance_160 : decode cX5_advance 160 = .ok (.goto (-55), 3) := by decide +kernel
theorem dX5_advance_163 : decode cX5_advance 163 = .ok (.return_, 1) := by decide +kernel
theorem hyX5_advance : yX5_advance.cls ≠ "java/lang/invoke/MethodHandle" ∧ yX5_advance.cls ≠ "java/lang/invoke/VarHandle" ∧ (parseMethodDescriptor yX5_advance.desc).map (fun d => d.parameters.length) = some 0 := ⟨by decide +kernel, by decide +kernel, by decide +kernel⟩
def jX5_advance_54_L8 (σ : zS) (x0 : Nat)  : Option (zS ⊕ zS) :=
  (zgI 5 5 σ x0).bind fun v9 => (zpI 5 5 σ x0 (v9 + 1)).bind fun σ10 => some (.inl σ10)
set_option maxRecDepth 100000 in
set_option maxHeartbeats 4000000 in
theorem wjX5_advance_54_L8 (C : zC p s m args meth c cX5_advance RX5 1 D Ca B En) (hRm : zRm R 2 43 cells slots) (σ : zS) (x0 : Nat)  (y : zS ⊕ zS) (hf : jX5_advance_54_L8 σ x0  = some y) (hk : (∀ z : zS, y = .inl z → zW p l e R s m args below meth c cells slots Q D Ca B 1 z N 8 [(0, .ref x0)] []) ∧ (∀ z : zS, y = .inr z → zW p l e R s m args below meth c cells slots Q D Ca B 1 z N 67 [(0, .ref x0)] [])) : zW p l e R s m args below meth c cells slots Q D Ca B 1 σ N 54 [(0, .ref x0)] [] := by
  unfold jX5_advance_54_L8 at hf
  refine z_aload_n C dX5_advance_54 rfl 0 rfl ?_
  refine z_dup C dX5_advance_55 rfl ?_
  obtain ⟨v9, hv9, hf⟩ := zbind hf
  refine gf_RX5_114 C hv9 dX5_advance_56 ?_
  refine z_iconst C 1 dX5_advance_59 (by decide) ?_
  refine z_iadd C dX5_advance_60 ?_
  obtain ⟨σ10, hσ10, hf⟩ := zbind hf
  refine gp_RX5_114 C hσ10 dX5_advance_61 ?_
  refine z_goto C 8 dX5_advance_64 (by decide) ?_
  cases hf
  refine z_sub [0] rfl ?_
  exact hk.1 _ rfl

def sX5_advance_8b (x0 : Nat) (σ : zS)  : Option (zS ⊕ zS) :=
  (zgI 5 5 σ x0).bind fun v3 => (zgR 5 2 σ x0).bind fun v4 => (zgI 2 1 σ v4).bind fun v5 => (if v5 ≤ v3 then some (.inr σ) else (zgR 5 2 σ x0).bind fun v6 => (zgI 5 5 σ x0).bind fun v7 => (zck 2 σ v6 (fX2_byteAt σ v6 v7)).bind fun c8 => (if c8.2 = 32 then jX5_advance_54_L8 c8.1 x0 else (zgR 5 2 c8.1 x0).bind fun v11 => (zgI 5 5 c8.1 x0).bind fun v12 => (zck 2 c8.1 v11 (fX2_byteAt c8.1 v11 v12)).bind fun c13 => (if c13.2 = 10 then jX5_advance_54_L8 c13.1 x0 else some (.inr c13.1))))
def sX5_advance_8 (x0 : Nat) (z : zS) : Option (zS ⊕ zS) := sX5_advance_8b x0 z
set_option maxRecDepth 100000 in
set_option maxHeartbeats 4000000 in
theorem wsX5_advance_8b (C : zC p s m args meth c cX5_advance RX5 1 D Ca B En) (hRm : zRm R 2 43 cells slots) (x0 : Nat) (σ : zS)  (y : zS ⊕ zS) (hf : sX5_advance_8b x0 σ  = some y) (hk : (∀ z : zS, y = .inl z → zW p l e R s m args below meth c cells slots Q D Ca B 1 z N 8 [(0, .ref x0)] []) ∧ (∀ z : zS, y = .inr z → zW p l e R s m args below meth c cells slots Q D Ca B 1 z N 67 [(0, .ref x0)] [])) : zW p l e R s m args below meth c cells slots Q D Ca B 1 σ N 8 [(0, .ref x0)] [] := by
  unfold sX5_advance_8b at hf
  refine z_aload_n C dX5_advance_8 rfl 0 rfl ?_
  obtain ⟨v3, hv3, hf⟩ := zbind hf
  refine gf_RX5_114 C hv3 dX5_advance_9 ?_
  refine z_aload_n C dX5_advance_12 rfl 0 rfl ?_
  obtain ⟨v4, hv4, hf⟩ := zbind hf
  refine gf_RX5_15 C hv4 dX5_advance_13 ?_
  obtain ⟨v5, hv5, hf⟩ := zbind hf
  refine gf_RX5_162 C hv5 dX5_advance_16 ?_
  refine z_icmp_ge C 67 dX5_advance_19 (by decide) (fun q16 => ?_) (fun q16 => ?_)
  · rw [if_pos q16] at hf
    cases hf
    refine z_sub [0] rfl ?_
    exact hk.2 _ rfl
  · rw [if_neg q16] at hf
    refine z_aload_n C dX5_advance_22 rfl 0 rfl ?_
    obtain ⟨v6, hv6, hf⟩ := zbind hf
    refine gf_RX5_15 C hv6 dX5_advance_23 ?_
    refine z_aload_n C dX5_advance_26 rfl 0 rfl ?_
    obtain ⟨v7, hv7, hf⟩ := zbind hf
    refine gf_RX5_114 C hv7 dX5_advance_27 ?_
    obtain ⟨c8, hc8, hf⟩ := zbind hf
    obtain ⟨kc8, hc8⟩ := zck_ok hc8
    refine z_callVi (As := [.int v7]) (F0 := 2) (L0 := 43) C (mX2_byteAt l D Ca B En C.2.2.2.2.2.2.2.1 σ N v6 v7 _ hc8) hRm kc8 rfl kw_512 kw_2 kw_509 kw_510 kw_511 hyX2_byteAt (Nat.le_of_ble_eq_true rfl) (Nat.le_of_ble_eq_true rfl) rfl rfl (Nat.le_of_ble_eq_true rfl) dX5_advance_30 ?_
    refine z_bipush C 32 dX5_advance_33 (by decide) ?_
    refine z_icmp_eq C 54 dX5_advance_35 (by decide) (fun q15 => ?_) (fun q15 => ?_)
    · rw [if_pos q15] at hf
      refine z_sub [0] rfl ?_
      exact wjX5_advance_54_L8 C hRm _ _  _ hf hk
    · rw [if_neg q15] at hf
      refine z_aload_n C dX5_advance_38 rfl 0 rfl ?_
      obtain ⟨v11, hv11, hf⟩ := zbind hf
      refine gf_RX5_15 C hv11 dX5_advance_39 ?_
      refine z_aload_n C dX5_advance_42 rfl 0 rfl ?_
      obtain ⟨v12, hv12, hf⟩ := zbind hf
      refine gf_RX5_114 C hv12 dX5_advance_43 ?_
      obtain ⟨c13, hc13, hf⟩ := zbind hf
      obtain ⟨kc13, hc13⟩ := zck_ok hc13
      refine z_callVi (As := [.int v12]) (F0 := 2) (L0 := 43) C (mX2_byteAt l D Ca B En C.2.2.2.2.2.2.2.1 c8.1 N v11 v12 _ hc13) hRm kc13 rfl kw_512 kw_2 kw_509 kw_510 kw_511 hyX2_byteAt (Nat.le_of_ble_eq_true rfl) (Nat.le_of_ble_eq_true rfl) rfl rfl (Nat.le_of_ble_eq_true rfl) dX5_advance_46 ?_
      refine z_bipush C 10 dX5_advance_49 (by decide) ?_
      refine z_icmp_ne C 67 dX5_advance_51 (by decide) (fun q14 => ?_) (fun q14 => ?_)
      · rw [if_neg q14] at hf
        cases hf
        refine z_sub [0] rfl ?_
        exact hk.2 _ rfl
      · rw [if_pos q14] at hf
        refine z_sub [0] rfl ?_
        exact wjX5_advance_54_L8 C hRm _ _  _ hf hk

theorem wsX5_advance_8 (C : zC p s m args meth c cX5_advance RX5 1 D Ca B En) (hRm : zRm R 2 43 cells slots) (x0 : Nat) (n : Nat) (z : zS) (x : zS) (hf : zloop (sX5_advance_8 x0) n z = some x) (hk : (∀ o : zS, x = o → zW p l e R s m args below meth c cells slots Q D Ca B 1 o N 67 [(0, .ref x0)] [])) : zW p l e R s m args below meth c cells slots Q D Ca B 1 z N 8 [(0, .ref x0)] [] := by
  refine zloop_W (P := fun z : zS => zW p l e R s m args below meth c cells slots Q D Ca B 1 z N 8 [(0, .ref x0)] []) (K := fun x : zS => (∀ o : zS, x = o → zW p l e R s m args below meth c cells slots Q D Ca B 1 o N 67 [(0, .ref x0)] [])) ?_ n z x hf hk
  intro z y hy h1 h2
  refine wsX5_advance_8b C hRm x0 z y hy ⟨fun z2 e => h1 z2 e, fun o e => (h2 _ e) o rfl⟩
def jX5_advance_121_L105 (σ : zS) (x0 : Nat)  : Option (zS ⊕ zS) :=
  (zgI 5 6 σ x0).bind fun v27 => (zgR 5 2 σ x0).bind fun v28 => (zgI 2 1 σ v28).bind fun v29 => (if v29 ≤ v27 then some (.inr σ) else (zgI 5 6 σ x0).bind fun v30 => (zck 5 σ x0 (fX5_kindAt σ x0 v30)).bind fun c31 => (zgI 5 4 c31.1 x0).bind fun v32 => (if c31.2 = v32 then (zgI 5 6 c31.1 x0).bind fun v33 => (zpI 5 6 c31.1 x0 (v33 + 1)).bind fun σ34 => some (.inl σ34) else some (.inr c31.1)))
set_option maxRecDepth 100000 in
set_option maxHeartbeats 4000000 in
theorem wjX5_advance_121_L105 (C : zC p s m args meth c cX5_advance RX5 1 D Ca B En) (hRm : zRm R 2 43 cells slots) (σ : zS) (x0 : Nat)  (y : zS ⊕ zS) (hf : jX5_advance_121_L105 σ x0  = some y) (hk : (∀ z : zS, y = .inl z → zW p l e R s m args below meth c cells slots Q D Ca B 1 z N 105 [(0, .ref x0)] []) ∧ (∀ z : zS, y = .inr z → zW p l e R s m args below meth c cells slots Q D Ca B 1 z N 163 [] [])) : zW p l e R s m args below meth c cells slots Q D Ca B 1 σ N 121 [(0, .ref x0)] [] := by
  unfold jX5_advance_121_L105 at hf
  refine z_aload_n C dX5_advance_121 rfl 0 rfl ?_
  obtain ⟨v27, hv27, hf⟩ := zbind hf
  refine gf_RX5_31 C hv27 dX5_advance_122 ?_
  refine z_aload_n C dX5_advance_125 rfl 0 rfl ?_
  obtain ⟨v28, hv28, hf⟩ := zbind hf
  refine gf_RX5_15 C hv28 dX5_advance_126 ?_
  obtain ⟨v29, hv29, hf⟩ := zbind hf
  refine gf_RX5_162 C hv29 dX5_advance_129 ?_
  refine z_icmp_ge C 163 dX5_advance_132 (by decide) (fun q36 => ?_) (fun q36 => ?_)
  · rw [if_pos q36] at hf
    cases hf
    refine z_sub [] rfl ?_
    exact hk.2 _ rfl
  · rw [if_neg q36] at hf
    refine z_aload_n C dX5_advance_135 rfl 0 rfl ?_
    refine z_aload_n C dX5_advance_136 rfl 0 rfl ?_
    obtain ⟨v30, hv30, hf⟩ := zbind hf
    refine gf_RX5_31 C hv30 dX5_advance_137 ?_
    obtain ⟨c31, hc31, hf⟩ := zbind hf
    obtain ⟨kc31, hc31⟩ := zck_ok hc31
    refine z_callVi (As := [.int v30]) (F0 := 2) (L0 := 43) C (mX5_kindAt l D Ca B En C.2.2.2.2.2.2.2.1 σ N x0 v30 _ hc31) hRm kc31 rfl kw_516 kw_3 kw_513 kw_515 kp_6 hyX5_kindAt (Nat.le_of_ble_eq_true rfl) (Nat.le_of_ble_eq_true rfl) rfl rfl (Nat.le_of_ble_eq_true rfl) dX5_advance_140 ?_
    refine z_aload_n C dX5_advance_143 rfl 0 rfl ?_
    obtain ⟨v32, hv32, hf⟩ := zbind hf
    refine gf_RX5_37 C hv32 dX5_advance_144 ?_
    refine z_icmp_ne C 163 dX5_advance_147 (by decide) (fun q35 => ?_) (fun q35 => ?_)
    · rw [if_neg q35] at hf
      cases hf
      refine z_sub [] rfl ?_
      exact hk.2 _ rfl
    · rw [if_pos q35] at hf
      refine z_aload_n C dX5_advance_150 rfl 0 rfl ?_
      refine z_dup C dX5_advance_151 rfl ?_
      obtain ⟨v33, hv33, hf⟩ := zbind hf
      refine gf_RX5_31 C hv33 dX5_advance_152 ?_
      refine z_iconst C 1 dX5_advance_155 (by decide) ?_
      refine z_iadd C dX5_advance_156 ?_
      obtain ⟨σ34, hσ34, hf⟩ := zbind hf
      refine gp_RX5_31 C hσ34 dX5_advance_157 ?_
      refine z_goto C 105 dX5_advance_160 (by decide) ?_
      cases hf
      refine z_sub [0] rfl ?_
      exact hk.1 _ rfl

def sX5_advance_105b (x0 : Nat) (σ : zS)  : Option (zS ⊕ zS) :=
  (zgI 5 4 σ x0).bind fun v26 => (if v26 = 1 then jX5_advance_121_L105 σ x0 else (zgI 5 4 σ x0).bind fun v37 => (if v37 = 2 then jX5_advance_121_L105 σ x0 else some (.inr σ)))
def sX5_advance_105 (x0 : Nat) (z : zS) : Option (zS ⊕ zS) := sX5_advance_105b x0 z
set_option maxRecDepth 100000 in
set_option maxHeartbeats 4000000 in
theorem wsX5_advance_105b (C : zC p s m args meth c cX5_advance RX5 1 D Ca B En) (hRm : zRm R 2 43 cells slots) (x0 : Nat) (σ : zS)  (y : zS ⊕ zS) (hf : sX5_advance_105b x0 σ  = some y) (hk : (∀ z : zS, y = .inl z → zW p l e R s m args below meth c cells slots Q D Ca B 1 z N 105 [(0, .ref x0)] []) ∧ (∀ z : zS, y = .inr z → zW p l e R s m args below meth c cells slots Q D Ca B 1 z N 163 [] [])) : zW p l e R s m args below meth c cells slots Q D Ca B 1 σ N 105 [(0, .ref x0)] [] := by
  unfold sX5_advance_105b at hf
  refine z_aload_n C dX5_advance_105 rfl 0 rfl ?_
  obtain ⟨v26, hv26, hf⟩ := zbind hf
  refine gf_RX5_37 C hv26 dX5_advance_106 ?_
  refine z_iconst C 1 dX5_advance_109 (by decide) ?_
  refine z_icmp_eq C 121 dX5_advance_110 (by decide) (fun q39 => ?_) (fun q39 => ?_)
  · rw [if_pos q39] at hf
    refine z_sub [0] rfl ?_
    exact wjX5_advance_121_L105 C hRm _ _  _ hf hk
  · rw [if_neg q39] at hf
    refine z_aload_n C dX5_advance_113 rfl 0 rfl ?_
    obtain ⟨v37, hv37, hf⟩ := zbind hf
    refine gf_RX5_37 C hv37 dX5_advance_114 ?_
    refine z_iconst C 2 dX5_advance_117 (by decide) ?_
    refine z_icmp_ne C 163 dX5_advance_118 (by decide) (fun q38 => ?_) (fun q38 => ?_)
    · rw [if_neg q38] at hf
      cases hf
      refine z_sub [] rfl ?_
      exact hk.2 _ rfl
    · rw [if_pos q38] at hf
      refine z_sub [0] rfl ?_
      exact wjX5_advance_121_L105 C hRm _ _  _ hf hk

theorem wsX5_advance_105 (C : zC p s m args meth c cX5_advance RX5 1 D Ca B En) (hRm : zRm R 2 43 cells slots) (x0 : Nat) (n : Nat) (z : zS) (x : zS) (hf : zloop (sX5_advance_105 x0) n z = some x) (hk : (∀ o : zS, x = o → zW p l e R s m args below meth c cells slots Q D Ca B 1 o N 163 [] [])) : zW p l e R s m args below meth c cells slots Q D Ca B 1 z N 105 [(0, .ref x0)] [] := by
  refine zloop_W (P := fun z : zS => zW p l e R s m args below meth c cells slots Q D Ca B 1 z N 105 [(0, .ref x0)] []) (K := fun x : zS => (∀ o : zS, x = o → zW p l e R s m args below meth c cells slots Q D Ca B 1 o N 163 [] [])) ?_ n z x hf hk
  intro z y hy h1 h2
  refine wsX5_advance_105b C hRm x0 z y hy ⟨fun z2 e => h1 z2 e, fun o e => (h2 _ e) o rfl⟩
def jX5_advance_67 (σ : zS) (x0 : Nat)  : Option zS :=
  (zgI 5 5 σ x0).bind fun v18 => (zck 5 σ x0 (fX5_kindAt σ x0 v18)).bind fun c19 => (zpI 5 4 c19.1 x0 c19.2).bind fun σ20 => (zgI 5 5 σ20 x0).bind fun v21 => (zpI 5 6 σ20 x0 v21).bind fun σ22 => (zgI 5 4 σ22 x0).bind fun v23 => (if v23 = 0 then some σ22 else (zgI 5 6 σ22 x0).bind fun v24 => (zpI 5 6 σ22 x0 (v24 + 1)).bind fun σ25 => (zloop (sX5_advance_105 x0) zfuel σ25).bind fun o40 => some o40)
set_option maxRecDepth 100000 in
set_option maxHeartbeats 4000000 in
theorem wjX5_advance_67 (C : zC p s m args meth c cX5_advance RX5 1 D Ca B En) (hRm : zRm R 2 43 cells slots) (σ : zS) (x0 : Nat)  (τ : zS) (hf : jX5_advance_67 σ x0  = some τ) (hq : ∀ (pc : Nat) (lv : List (Nat × Value)), decode cX5_advance pc = .ok (.return_, 1) → zW p l e R s m args below meth c cells slots Q D Ca B 1 τ N pc lv []) : zW p l e R s m args below meth c cells slots Q D Ca B 1 σ N 67 [(0, .ref x0)] [] := by
  unfold jX5_advance_67 at hf
  refine z_aload_n C dX5_advance_67 rfl 0 rfl ?_
  refine z_aload_n C dX5_advance_68 rfl 0 rfl ?_
  refine z_aload_n C dX5_advance_69 rfl 0 rfl ?_
  obtain ⟨v18, hv18, hf⟩ := zbind hf
  refine gf_RX5_114 C hv18 dX5_advance_70 ?_
  obtain ⟨c19, hc19, hf⟩ := zbind hf
  obtain ⟨kc19, hc19⟩ := zck_ok hc19
  refine z_callVi (As := [.int v18]) (F0 := 2) (L0 := 43) C (mX5_kindAt l D Ca B En C.2.2.2.2.2.2.2.1 σ N x0 v18 _ hc19) hRm kc19 rfl kw_516 kw_3 kw_513 kw_515 kp_6 hyX5_kindAt (Nat.le_of_ble_eq_true rfl) (Nat.le_of_ble_eq_true rfl) rfl rfl (Nat.le_of_ble_eq_true rfl) dX5_advance_73 ?_
  obtain ⟨σ20, hσ20, hf⟩ := zbind hf
  refine gp_RX5_37 C hσ20 dX5_advance_76 ?_
  refine z_aload_n C dX5_advance_79 rfl 0 rfl ?_
  refine z_aload_n C dX5_advance_80 rfl 0 rfl ?_
  obtain ⟨v21, hv21, hf⟩ := zbind hf
  refine gf_RX5_114 C hv21 dX5_advance_81 ?_
  obtain ⟨σ22, hσ22, hf⟩ := zbind hf
  refine gp_RX5_31 C hσ22 dX5_advance_84 ?_
  refine z_aload_n C dX5_advance_87 rfl 0 rfl ?_
  obtain ⟨v23, hv23, hf⟩ := zbind hf
  refine gf_RX5_37 C hv23 dX5_advance_88 ?_
  refine z_if_ne C 95 dX5_advance_91 (by decide) (fun q41 => ?_) (fun q41 => ?_)
  · rw [if_neg q41] at hf
    refine z_aload_n C dX5_advance_95 rfl 0 rfl ?_
    refine z_dup C dX5_advance_96 rfl ?_
    obtain ⟨v24, hv24, hf⟩ := zbind hf
    refine gf_RX5_31 C hv24 dX5_advance_97 ?_
    refine z_iconst C 1 dX5_advance_100 (by decide) ?_
    refine z_iadd C dX5_advance_101 ?_
    obtain ⟨σ25, hσ25, hf⟩ := zbind hf
    refine gp_RX5_31 C hσ25 dX5_advance_102 ?_
    obtain ⟨o40, ho40, hf⟩ := zbind hf
    refine z_sub [0] rfl ?_
    refine wsX5_advance_105 C hRm _ zfuel σ25 o40 ho40 ?_
    intro z9 e9
    subst e9
    cases hf
    exact hq _ _ dX5_advance_163
  · rw [if_pos q41] at hf
    cases hf
    exact hq _ _ dX5_advance_94

def fX5_advance (σ : zS) (x0 : Nat) : Option zS :=
  (zgI 5 6 σ x0).bind fun v1 => (zpI 5 5 σ x0 v1).bind fun σ2 => (zloop (sX5_advance_8 x0) zfuel σ2).bind fun o17 => jX5_advance_67 o17 x0
set_option maxRecDepth 100000 in
set_option maxHeartbeats 4000000 in
theorem wfX5_advance (C : zC p s m args meth c cX5_advance RX5 1 D Ca B En) (hRm : zRm R 2 43 cells slots) (σ : zS) (x0 : Nat) (τ : zS) (hf : fX5_advance σ x0 = some τ) (hq : ∀ (pc : Nat) (lv : List (Nat × Value)), decode cX5_advance pc = .ok (.return_, 1) → zW p l e R s m args below meth c cells slots Q D Ca B 1 τ N pc lv []) : zW p l e R s m args below meth c cells slots Q D Ca B 1 σ N 0 [(0, .ref x0)] [] := by
  unfold fX5_advance at hf
  refine z_aload_n C dX5_advance_0 rfl 0 rfl ?_
  refine z_aload_n C dX5_advance_1 rfl 0 rfl ?_
  obtain ⟨v1, hv1, hf⟩ := zbind hf
  refine gf_RX5_31 C hv1 dX5_advance_2 ?_
  obtain ⟨σ2, hσ2, hf⟩ := zbind hf
  refine gp_RX5_114 C hσ2 dX5_advance_5 ?_
  obtain ⟨o17, ho17, hf⟩ := zbind hf
  refine z_sub [0] rfl ?_
  refine wsX5_advance_8 C hRm _ zfuel σ2 o17 ho17 ?_
  intro z9 e9
  subst e9
  refine z_sub [0] rfl ?_
  exact wjX5_advance_67 C hRm _ _  _ hf hq

theorem mX5_advance (l : Launch) (D : va_G) (Ca : Nat → ClassId) (B : Nat) (En : State → Prop) (hE : zEk B En) (σ : zS) (N : Nat) (x0 : Nat) (X : zS) (hf : fX5_advance σ x0 = some X) : zMv l D Ca B En yX5_advance cX5_advance 1 (Option.none : Option Jvm.ClassFile.FieldType) 2 43 [.ref x0] σ N X () :=
  zMet_v (own := RX5) hE (by decide +kernel) rfl (Nat.le_of_ble_eq_true rfl) (fun p e s m args below meth c C hr hRm => wfX5_advance C hRm σ x0 X hf (fun pc lv hd => zfin_v (r := ()) C hr hd))
theorem dJ2_length_9d52b_0 : decode cJ2_length_9d52b 0 = .ok (.aload_n 0, 1) := by decide +kernel
theorem dJ2_length_9d52b_1 : decode cJ2_length_9d52b 1 = .ok (.arraylength, 1) := by decide +kernel
theorem dJ2_length_9d52b_2 : decode cJ2_length_9d52b 2 = .ok (.iconst 1, 1) := by decide +kernel
theorem dJ2_length_9d52b_3 : decode cJ2_length_9d52b 3 = .ok (.ishr, 1) := by decide +kernel
theorem dJ2_length_9d52b_4 : decode cJ2_length_9d52b 4 = .ok (.ireturn, 1) := by decide +kernel
theorem hyJ2_length_9d52b : yJ2_length_9d52b.cls ≠ "java/lang/invoke/MethodHandle" ∧ yJ2_length_9d52b.cls ≠ "java/lang/invoke/VarHandle" ∧ (parseMethodDescriptor yJ2_length_9d52b.desc).map (fun d => d.parameters.length) = some 1 := ⟨by decide +kernel, by decide +kernel, by decide +kernel⟩
def fJ2_length_9d52b (σ : zS) (x0 : Nat) : Option (zS × Int32) :=
  (zlen σ x0).bind fun v1 => some (σ, v1 >>> (1 &&& 31))
set_option maxRecDepth 100000 in
set_option maxHeartbeats 4000000 in
theorem wfJ2_length_9d52b (C : zC p s m args meth c cJ2_length_9d52b RJ2 1 D Ca B En) (hRm : zRm R 0 0 cells slots) (σ : zS) (x0 : Nat) (τ : zS) (r : Int32) (hf : fJ2_length_9d52b σ x0 = some (τ, r)) (hq : ∀ (pc : Nat) (lv : List (Nat × Value)), decode cJ2_length_9d52b pc = .ok (.ireturn, 1) → zW p l e R s m args below meth c cells slots Q D Ca B 1 τ N pc lv [.int r]) : zW p l e R s m args below meth c cells slots Q D Ca B 1 σ N 0 [(0, .ref x0)] [] := by
  unfold fJ2_length_9d52b at hf
  refine z_aload_n C dJ2_length_9d52b_0 rfl 0 rfl ?_
  obtain ⟨v1, hv1, hf⟩ := zbind hf
  refine z_alen C hv1 dJ2_length_9d52b_1 ?_
  refine z_iconst C 1 dJ2_length_9d52b_2 (by decide) ?_
  refine z_ishr C dJ2_length_9d52b_3 ?_
  cases hf
  exact hq _ _ dJ2_length_9d52b_4

theorem mJ2_length_9d52b (l : Launch) (D : va_G) (Ca : Nat → ClassId) (B : Nat) (En : State → Prop) (hE : zEk B En) (σ : zS) (N : Nat) (x0 : Nat) (X : zS × Int32) (hf : fJ2_length_9d52b σ x0 = some X) : zMi l D Ca B En yJ2_length_9d52b cJ2_length_9d52b 1 (Option.some Jvm.ClassFile.FieldType.int) 0 0 [.ref x0] σ N X.1 X.2 :=
  zMet_i (own := RJ2) hE (by decide +kernel) rfl (Nat.le_of_ble_eq_true rfl) (fun p e s m args below meth c C hr hRm => wfJ2_length_9d52b C hRm σ x0 X.1 X.2 hf (fun pc lv hd => zfin_i C hr hd))
theorem dX5_refuse_0 : decode cX5_refuse 0 = .ok (.aload_n 0, 1) := by decide +kernel
theorem dX5_refuse_1 : decode cX5_refuse 1 = .ok (.iload_n 1, 1) := by decide +kernel
theorem dX5_refuse_2 : decode cX5_refuse 2 = .ok (.putfield 28, 3) := by decide +kernel
theorem dX5_refuse_5 : decode cX5_refuse 5 = .ok (.aload_n 0, 1) := by decide +kernel
theorem dX5_refuse_6 : decode cX5_refuse 6 = .ok (.aload_n 0, 1) := by decide +kernel
theorem dX5_refuse_7 : decode cX5_refuse 7 = .ok (.getfield 114, 3) := by decide +kernel
theorem dX5_refuse_10 : decode cX5_refuse 10 = .ok (.putfield 9, 3) := by decide +kernel
theorem dX5_refuse_13 : decode cX5_refuse 13 = .ok (.iconst 0, 1) := by decide +kernel
theorem dX5_refuse_14 : decode cX5_refuse 14 = .ok (.ireturn, 1) := by decide +kernel
theorem hyX5_refuse : yX5_refuse.cls ≠ "java/lang/invoke/MethodHandle" ∧ yX5_refuse.cls ≠ "java/lang/invoke/VarHandle" ∧ (parseMethodDescriptor yX5_refuse.desc).map (fun d => d.parameters.length) = some 1 := ⟨by decide +kernel, by decide +kernel, by decide +kernel⟩
def fX5_refuse (σ : zS) (x0 : Nat) (x1 : Int32) : Option (zS × Int32) :=
  (zpI 5 0 σ x0 x1).bind fun σ1 => (zgI 5 5 σ1 x0).bind fun v2 => (zpI 5 1 σ1 x0 v2).bind fun σ3 => zrZ σ3 0
set_option maxRecDepth 100000 in
set_option maxHeartbeats 4000000 in
theorem wfX5_refuse (C : zC p s m args meth c cX5_refuse RX5 2 D Ca B En) (hRm : zRm R 0 0 cells slots) (σ : zS) (x0 : Nat) (x1 : Int32) (τ : zS) (r : Int32) (hf : fX5_refuse σ x0 x1 = some (τ, r)) (hq : ∀ (pc : Nat) (lv : List (Nat × Value)), (r = 0 ∨ r = 1) → decode cX5_refuse pc = .ok (.ireturn, 1) → zW p l e R s m args below meth c cells slots Q D Ca B 2 τ N pc lv [.int r]) : zW p l e R s m args below meth c cells slots Q D Ca B 2 σ N 0 [(0, .ref x0), (1, .int x1)] [] := by
  unfold fX5_refuse at hf
  refine z_aload_n C dX5_refuse_0 rfl 0 rfl ?_
  refine z_iload_n C dX5_refuse_1 rfl 1 rfl ?_
  obtain ⟨σ1, hσ1, hf⟩ := zbind hf
  refine gp_RX5_28 C hσ1 dX5_refuse_2 ?_
  refine z_aload_n C dX5_refuse_5 rfl 0 rfl ?_
  refine z_aload_n C dX5_refuse_6 rfl 0 rfl ?_
  obtain ⟨v2, hv2, hf⟩ := zbind hf
  refine gf_RX5_114 C hv2 dX5_refuse_7 ?_
  obtain ⟨σ3, hσ3, hf⟩ := zbind hf
  refine gp_RX5_9 C hσ3 dX5_refuse_10 ?_
  refine z_iconst C 0 dX5_refuse_13 (by decide) ?_
  obtain ⟨e9, b9⟩ := zrZ_ok hf
  cases e9
  exact hq _ _ b9 dX5_refuse_14

theorem mX5_refuse (l : Launch) (D : va_G) (Ca : Nat → ClassId) (B : Nat) (En : State → Prop) (hE : zEk B En) (σ : zS) (N : Nat) (x0 : Nat) (x1 : Int32) (X : zS × Int32) (hf : fX5_refuse σ x0 x1 = some X) : zMi l D Ca B En yX5_refuse cX5_refuse 2 (Option.some Jvm.ClassFile.FieldType.boolean) 0 0 [.ref x0, .int x1] σ N X.1 X.2 :=
  zMet_i (own := RX5) hE (by decide +kernel) rfl (Nat.le_of_ble_eq_true rfl) (fun p e s m args below meth c C hr hRm => wfX5_refuse C hRm σ x0 x1 X.1 X.2 hf (fun pc lv hb hd => zfin_z C hb hr hd))
theorem dX7_isName_0 : decode cX7_isName 0 = .ok (.iload 4, 2) := by decide +kernel
theorem dX7_isName_2 : decode cX7_isName 2 = .ok (.aload_n 0, 1) := by decide +kernel
theorem dX7_isName_3 : decode cX7_isName 3 = .ok (.getfield 21, 3) := by decide +kernel
theorem dX7_isName_6 : decode cX7_isName 6 = .ok (.iload_n 1, 1) := by decide +kernel
theorem dX7_isName_7 : decode cX7_isName 7 = .ok (.iaload, 1) := by decide +kernel
theorem dX7_isName_8 : decode cX7_isName 8 = .ok (.if_icmp .ne 23, 3) := by decide +kernel
theorem dX7_isName_11 : decode cX7_isName 11 = .ok (.iload 4, 2) := by decide +kernel
theorem dX7_isName_13 : decode cX7_isName 13 = .ok (.bipush 8, 2) := by decide +kernel
theorem dX7_isName_15 : decode cX7_isName 15 = .ok (.if_icmp .gt 16, 3) := by decide +kernel
theorem dX7_isName_18 : decode cX7_isName 18 = .ok (.iload_n 3, 1) := by decide +kernel
theorem dX7_isName_19 : decode cX7_isName 19 = .ok (.ifCond .lt 12, 3) := by decide +kernel
theorem dX7_isName_22 : decode cX7_isName 22 = .ok (.iload_n 3, 1) := by decide +kernel
theorem dX7_isName_23 : decode cX7_isName 23 = .ok (.iload 4, 2) := by decide +kernel
theorem dX7_isName_25 : decode cX7_isName 25 = .ok (.iadd, 1) := by decide +kernel
theorem dX7_isName_26 : decode cX7_isName 26 = .ok (.aload_n 2, 1) := by decide +kernel
theorem dX7_isName_27 : decode cX7_isName 27 = .ok (.arraylength, 1) := by decide +kernel
theorem dX7_isName_28 : decode cX7_isName 28 = .ok (.if_icmp .le 5, 3) := by decide +kernel
theorem dX7_isName_31 : decode cX7_isName 31 = .ok (.iconst 0, 1) := by decide +kernel
theorem dX7_isName_32 : decode cX7_isName 32 = .ok (.ireturn, 1) := by decide +kernel
theorem dX7_isName_33 : decode cX7_isName 33 = .ok (.iconst 0, 1) := by decide +kernel
theorem dX7_isName_34 : decode cX7_isName 34 = .ok (.istore 5, 2) := by decide +kernel
theorem dX7_isName_36 : decode cX7_isName 36 = .ok (.iload 5, 2) := by decide +kernel
theorem dX7_isName_38 : decode cX7_isName 38 = .ok (.iload 4, 2) := by decide +kernel
theorem dX7_isName_40 : decode cX7_isName 40 = .ok (.if_icmp .ge 32, 3) := by decide +kernel
theorem dX7_isName_43 : decode cX7_isName 43 = .ok (.aload_n 0, 1) := by decide +kernel
theorem dX7_isName_44 : decode cX7_isName 44 = .ok (.getfield 24, 3) := by decide +kernel
theorem dX7_isName_47 : decode cX7_isName 47 = .ok (.bipush 8, 2) := by decide +kernel
theorem dX7_isName_49 : decode cX7_isName 49 = .ok (.iload_n 1, 1) := by decide +kernel
theorem dX7_isName_50 : decode cX7_isName 50 = .ok (.imul, 1) := by decide +kernel
theorem dX7_isName_51 : decode cX7_isName 51 = .ok (.iload 5, 2) := by decide +kernel
theorem dX7_isName_53 : decode cX7_isName 53 = .ok (.iadd, 1) := by decide +kernel
theorem dX7_isName_54 : decode cX7_isName 54 = .ok (.baload, 1) := by decide +kernel
theorem dX7_isName_55 : decode cX7_isName 55 = .ok (.aload_n 2, 1) := by decide +kernel
theorem dX7_isName_56 : decode cX7_isName 56 = .ok (.iload_n 3, 1) := by decide +kernel
theorem dX7_isName_57 : decode cX7_isName 57 = .ok (.iload 5, 2) := by decide +kernel
theorem dX7_isName_59 : decode cX7_isName 59 = .ok (.iadd, 1) := by decide +kernel
theorem dX7_isName_60 : decode cX7_isName 60 = .ok (.baload, 1) := by decide +kernel
theorem dX7_isName_61 : decode cX7_isName 61 = .ok (.if_icmp .eq 5, 3) := by decide +kernel
theorem dX7_isName_64 : decode cX7_isName 64 = .ok (.iconst 0, 1) := by decide +kernel
theorem dX7_isName_65 : decode cX7_isName 65 = .ok (.ireturn, 1) := by decide +kernel
theorem dX7_isName_66 : decode cX7_isName 66 = .ok (.iinc 5 1, 3) := by decide +kernel
theorem dX7_isName_69 : decode cX7_isName 69 = .ok (.goto (-33), 3) := by decide +kernel
theorem dX7_isName_72 : decode cX7_isName 72 = .ok (.iconst 1, 1) := by decide +kernel
theorem dX7_isName_73 : decode cX7_isName 73 = .ok (.ireturn, 1) := by decide +kernel
theorem hyX7_isName : yX7_isName.cls ≠ "java/lang/invoke/MethodHandle" ∧ yX7_isName.cls ≠ "java/lang/invoke/VarHandle" ∧ (parseMethodDescriptor yX7_isName.desc).map (fun d => d.parameters.length) = some 4 := ⟨by decide +kernel, by decide +kernel, by decide +kernel⟩
def sX7_isName_36b (x0 : Nat) (x1 : Int32) (x2 : Nat) (x3 : Int32) (x4 : Int32) (σ : zS) (u5 : Int32) : Option ((zS × Int32) ⊕ (zS ⊕ zS)) :=
  (if x4 ≤ u5 then some (.inr (.inr σ)) else (zgR 7 6 σ x0).bind fun v4 => (zaB σ v4 ((8 * x1) + u5)).bind fun v5 => (zaB σ x2 (x3 + u5)).bind fun v6 => (if v5 = v6 then some (.inl (σ, u5 + 1)) else some (.inr (.inl σ))))
def sX7_isName_36 (x0 : Nat) (x1 : Int32) (x2 : Nat) (x3 : Int32) (x4 : Int32) (z : (zS × Int32)) : Option ((zS × Int32) ⊕ (zS ⊕ zS)) := sX7_isName_36b x0 x1 x2 x3 x4 z.1 z.2
set_option maxRecDepth 100000 in
set_option maxHeartbeats 4000000 in
theorem wsX7_isName_36b (C : zC p s m args meth c cX7_isName RX7 6 D Ca B En) (hRm : zRm R 0 0 cells slots) (x0 : Nat) (x1 : Int32) (x2 : Nat) (x3 : Int32) (x4 : Int32) (σ : zS) (u5 : Int32) (y : (zS × Int32) ⊕ (zS ⊕ zS)) (hf : sX7_isName_36b x0 x1 x2 x3 x4 σ u5 = some y) (hk : (∀ z : (zS × Int32), y = .inl z → zW p l e R s m args below meth c cells slots Q D Ca B 6 z.1 N 36 [(0, .ref x0), (1, .int x1), (2, .ref x2), (3, .int x3), (4, .int x4), (5, .int z.2)] []) ∧ (∀ z : zS, y = .inr (.inl z) → zW p l e R s m args below meth c cells slots Q D Ca B 6 z N 64 [] []) ∧ (∀ z : zS, y = .inr (.inr z) → zW p l e R s m args below meth c cells slots Q D Ca B 6 z N 72 [] [])) : zW p l e R s m args below meth c cells slots Q D Ca B 6 σ N 36 [(0, .ref x0), (1, .int x1), (2, .ref x2), (3, .int x3), (4, .int x4), (5, .int u5)] [] := by
  unfold sX7_isName_36b at hf
  refine z_iload C dX7_isName_36 5 rfl ?_
  refine z_iload C dX7_isName_38 4 rfl ?_
  refine z_icmp_ge C 72 dX7_isName_40 (by decide) (fun q8 => ?_) (fun q8 => ?_)
  · rw [if_pos q8] at hf
    cases hf
    refine z_sub [] rfl ?_
    exact hk.2.2 _ rfl
  · rw [if_neg q8] at hf
    refine z_aload_n C dX7_isName_43 rfl 0 rfl ?_
    obtain ⟨v4, hv4, hf⟩ := zbind hf
    refine gf_RX7_24 C hv4 dX7_isName_44 ?_
    refine z_bipush C 8 dX7_isName_47 (by decide) ?_
    refine z_iload_n C dX7_isName_49 rfl 1 rfl ?_
    refine z_imul C dX7_isName_50 ?_
    refine z_iload C dX7_isName_51 5 rfl ?_
    refine z_iadd C dX7_isName_53 ?_
    obtain ⟨v5, hv5, hf⟩ := zbind hf
    refine z_aB C hv5 dX7_isName_54 ?_
    refine z_aload_n C dX7_isName_55 rfl 2 rfl ?_
    refine z_iload_n C dX7_isName_56 rfl 3 rfl ?_
    refine z_iload C dX7_isName_57 5 rfl ?_
    refine z_iadd C dX7_isName_59 ?_
    obtain ⟨v6, hv6, hf⟩ := zbind hf
    refine z_aB C hv6 dX7_isName_60 ?_
    refine z_icmp_eq C 66 dX7_isName_61 (by decide) (fun q7 => ?_) (fun q7 => ?_)
    · rw [if_pos q7] at hf
      refine z_iinc (lv2 := [(5, .int (u5 + 1)), (0, .ref x0), (1, .int x1), (2, .ref x2), (3, .int x3), (4, .int x4)]) C (u5 + 1) dX7_isName_66 5 rfl rfl (by decide) rfl ?_
      refine z_goto C 36 dX7_isName_69 (by decide) ?_
      cases hf
      refine z_sub [1, 2, 3, 4, 5, 0] rfl ?_
      exact hk.1 _ rfl
    · rw [if_neg q7] at hf
      cases hf
      refine z_sub [] rfl ?_
      exact hk.2.1 _ rfl

theorem wsX7_isName_36 (C : zC p s m args meth c cX7_isName RX7 6 D Ca B En) (hRm : zRm R 0 0 cells slots) (x0 : Nat) (x1 : Int32) (x2 : Nat) (x3 : Int32) (x4 : Int32) (n : Nat) (z : (zS × Int32)) (x : (zS ⊕ zS)) (hf : zloop (sX7_isName_36 x0 x1 x2 x3 x4) n z = some x) (hk : (∀ o : zS, x = (.inl o) → zW p l e R s m args below meth c cells slots Q D Ca B 6 o N 64 [] []) ∧ (∀ o : zS, x = (.inr o) → zW p l e R s m args below meth c cells slots Q D Ca B 6 o N 72 [] [])) : zW p l e R s m args below meth c cells slots Q D Ca B 6 z.1 N 36 [(0, .ref x0), (1, .int x1), (2, .ref x2), (3, .int x3), (4, .int x4), (5, .int z.2)] [] := by
  refine zloop_W (P := fun z : (zS × Int32) => zW p l e R s m args below meth c cells slots Q D Ca B 6 z.1 N 36 [(0, .ref x0), (1, .int x1), (2, .ref x2), (3, .int x3), (4, .int x4), (5, .int z.2)] []) (K := fun x : (zS ⊕ zS) => (∀ o : zS, x = (.inl o) → zW p l e R s m args below meth c cells slots Q D Ca B 6 o N 64 [] []) ∧ (∀ o : zS, x = (.inr o) → zW p l e R s m args below meth c cells slots Q D Ca B 6 o N 72 [] [])) ?_ n z x hf hk
  intro z y hy h1 h2
  refine wsX7_isName_36b C hRm x0 x1 x2 x3 x4 z.1 z.2 y hy ⟨fun z2 e => h1 z2 e, fun o e => (h2 _ e).1 o rfl, fun o e => (h2 _ e).2 o rfl⟩
def fX7_isName (σ : zS) (x0 : Nat) (x1 : Int32) (x2 : Nat) (x3 : Int32) (x4 : Int32) : Option (zS × Int32) :=
  (zgR 7 5 σ x0).bind fun v1 => (zaI σ v1 x1).bind fun v2 => (if x4 = v2 then (if 8 < x4 then zrZ σ 0 else (if x3 < 0 then zrZ σ 0 else (zlen σ x2).bind fun v3 => (if (x3 + x4) ≤ v3 then (zloop (sX7_isName_36 x0 x1 x2 x3 x4) zfuel (σ, 0)).bind fun o9 => (match o9 with | (.inl z10) => zrZ z10 0 | (.inr z11) => zrZ z11 1) else zrZ σ 0))) else zrZ σ 0)
set_option maxRecDepth 100000 in
set_option maxHeartbeats 4000000 in
theorem wfX7_isName (C : zC p s m args meth c cX7_isName RX7 6 D Ca B En) (hRm : zRm R 0 0 cells slots) (σ : zS) (x0 : Nat) (x1 : Int32) (x2 : Nat) (x3 : Int32) (x4 : Int32) (τ : zS) (r : Int32) (hf : fX7_isName σ x0 x1 x2 x3 x4 = some (τ, r)) (hq : ∀ (pc : Nat) (lv : List (Nat × Value)), (r = 0 ∨ r = 1) → decode cX7_isName pc = .ok (.ireturn, 1) → zW p l e R s m args below meth c cells slots Q D Ca B 6 τ N pc lv [.int r]) : zW p l e R s m args below meth c cells slots Q D Ca B 6 σ N 0 [(0, .ref x0), (1, .int x1), (2, .ref x2), (3, .int x3), (4, .int x4)] [] := by
  unfold fX7_isName at hf
  refine z_iload C dX7_isName_0 4 rfl ?_
  refine z_aload_n C dX7_isName_2 rfl 0 rfl ?_
  obtain ⟨v1, hv1, hf⟩ := zbind hf
  refine gf_RX7_21 C hv1 dX7_isName_3 ?_
  refine z_iload_n C dX7_isName_6 rfl 1 rfl ?_
  obtain ⟨v2, hv2, hf⟩ := zbind hf
  refine z_aI C hv2 dX7_isName_7 ?_
  refine z_icmp_ne C 31 dX7_isName_8 (by decide) (fun q15 => ?_) (fun q15 => ?_)
  · rw [if_neg q15] at hf
    refine z_iconst C 0 dX7_isName_31 (by decide) ?_
    obtain ⟨e9, b9⟩ := zrZ_ok hf
    cases e9
    exact hq _ _ b9 dX7_isName_32
  · rw [if_pos q15] at hf
    refine z_iload C dX7_isName_11 4 rfl ?_
    refine z_bipush C 8 dX7_isName_13 (by decide) ?_
    refine z_icmp_gt C 31 dX7_isName_15 (by decide) (fun q14 => ?_) (fun q14 => ?_)
    · rw [if_pos q14] at hf
      refine z_iconst C 0 dX7_isName_31 (by decide) ?_
      obtain ⟨e9, b9⟩ := zrZ_ok hf
      cases e9
      exact hq _ _ b9 dX7_isName_32
    · rw [if_neg q14] at hf
      refine z_iload_n C dX7_isName_18 rfl 3 rfl ?_
      refine z_if_lt C 31 dX7_isName_19 (by decide) (fun q13 => ?_) (fun q13 => ?_)
      · rw [if_pos q13] at hf
        refine z_iconst C 0 dX7_isName_31 (by decide) ?_
        obtain ⟨e9, b9⟩ := zrZ_ok hf
        cases e9
        exact hq _ _ b9 dX7_isName_32
      · rw [if_neg q13] at hf
        refine z_iload_n C dX7_isName_22 rfl 3 rfl ?_
        refine z_iload C dX7_isName_23 4 rfl ?_
        refine z_iadd C dX7_isName_25 ?_
        refine z_aload_n C dX7_isName_26 rfl 2 rfl ?_
        obtain ⟨v3, hv3, hf⟩ := zbind hf
        refine z_alen C hv3 dX7_isName_27 ?_
        refine z_icmp_le C 33 dX7_isName_28 (by decide) (fun q12 => ?_) (fun q12 => ?_)
        · rw [if_pos q12] at hf
          refine z_iconst C 0 dX7_isName_33 (by decide) ?_
          refine z_istore (lv2 := [(5, .int 0), (0, .ref x0), (1, .int x1), (2, .ref x2), (3, .int x3), (4, .int x4)]) C dX7_isName_34 (by decide) rfl ?_
          obtain ⟨o9, ho9, hf⟩ := zbind hf
          refine z_sub [1, 2, 3, 4, 5, 0] rfl ?_
          refine wsX7_isName_36 C hRm _ _ _ _ _ zfuel (σ, 0) o9 ho9 ⟨?_, ?_⟩
          · intro z10 e9
            subst e9
            dsimp only at hf
            refine z_iconst C 0 dX7_isName_64 (by decide) ?_
            obtain ⟨e9, b9⟩ := zrZ_ok hf
            cases e9
            exact hq _ _ b9 dX7_isName_65
          · intro z11 e9
            subst e9
            dsimp only at hf
            refine z_iconst C 1 dX7_isName_72 (by decide) ?_
            obtain ⟨e9, b9⟩ := zrZ_ok hf
            cases e9
            exact hq _ _ b9 dX7_isName_73
        · rw [if_neg q12] at hf
          refine z_iconst C 0 dX7_isName_31 (by decide) ?_
          obtain ⟨e9, b9⟩ := zrZ_ok hf
          cases e9
          exact hq _ _ b9 dX7_isName_32

theorem mX7_isName (l : Launch) (D : va_G) (Ca : Nat → ClassId) (B : Nat) (En : State → Prop) (hE : zEk B En) (σ : zS) (N : Nat) (x0 : Nat) (x1 : Int32) (x2 : Nat) (x3 : Int32) (x4 : Int32) (X : zS × Int32) (hf : fX7_isName σ x0 x1 x2 x3 x4 = some X) : zMi l D Ca B En yX7_isName cX7_isName 6 (Option.some Jvm.ClassFile.FieldType.boolean) 0 0 [.ref x0, .int x1, .ref x2, .int x3, .int x4] σ N X.1 X.2 :=
  zMet_i (own := RX7) hE (by decide +kernel) rfl (Nat.le_of_ble_eq_true rfl) (fun p e s m args below meth c C hr hRm => wfX7_isName C hRm σ x0 x1 x2 x3 x4 X.1 X.2 hf (fun pc lv hb hd => zfin_z C hb hr hd))
theorem dX7_named_0 : decode cX7_named 0 = .ok (.iconst 0, 1) := by decide +kernel
theorem dX7_named_1 : decode cX7_named 1 = .ok (.istore 4, 2) := by decide +kernel
theorem dX7_named_3 : decode cX7_named 3 = .ok (.iload 4, 2) := by decide +kernel
theorem dX7_named_5 : decode cX7_named 5 = .ok (.aload_n 0, 1) := by decide +kernel
theorem dX7_named_6 : decode cX7_named 6 = .ok (.getfield 40, 3) := by decide +kernel
theorem dX7_named_9 : decode cX7_named 9 = .ok (.if_icmp .ge 24, 3) := by decide +kernel
theorem dX7_named_12 : decode cX7_named 12 = .ok (.aload_n 0, 1) := by decide +kernel
theorem dX7_named_13 : decode cX7_named 13 = .ok (.iload 4, 2) := by decide +kernel
theorem dX7_named_15 : decode cX7_named 15 = .ok (.aload_n 1, 1) := by decide +kernel
theorem dX7_named_16 : decode cX7_named 16 = .ok (.iload_n 2, 1) := by decide +kernel
theorem dX7_named_17 : decode cX7_named 17 = .ok (.iload_n 3, 1) := by decide +kernel
theorem dX7_named_18 : decode cX7_named 18 = .ok (.invokevirtual 90, 3) := by decide +kernel
theorem dX7_named_21 : decode cX7_named 21 = .ok (.ifCond .eq 6, 3) := by decide +kernel
theorem dX7_named_24 : decode cX7_named 24 = .ok (.iload 4, 2) := by decide +kernel
theorem dX7_named_26 : decode cX7_named 26 = .ok (.ireturn, 1) := by decide +kernel
theorem dX7_named_27 : decode cX7_named 27 = .ok (.iinc 4 1, 3) := by decide +kernel
theorem dX7_named_30 : decode cX7_named 30 = .ok (.goto (-27), 3) := by decide +kernel
theorem dX7_named_33 : decode cX7_named 33 = .ok (.iconst (-1), 1) := by decide +kernel
theorem dX7_named_34 : decode cX7_named 34 = .ok (.ireturn, 1) := by decide +kernel
theorem hyX7_named : yX7_named.cls ≠ "java/lang/invoke/MethodHandle" ∧ yX7_named.cls ≠ "java/lang/invoke/VarHandle" ∧ (parseMethodDescriptor yX7_named.desc).map (fun d => d.parameters.length) = some 3 := ⟨by decide +kernel, by decide +kernel, by decide +kernel⟩
def sX7_named_3b (x0 : Nat) (x1 : Nat) (x2 : Int32) (x3 : Int32) (σ : zS) (u4 : Int32) : Option ((zS × Int32) ⊕ ((zS × Int32) ⊕ zS)) :=
  (zgI 7 0 σ x0).bind fun v1 => (if v1 ≤ u4 then some (.inr (.inr σ)) else (zck 7 σ x0 (fX7_isName σ x0 u4 x1 x2 x3)).bind fun c2 => (if c2.2 = 0 then some (.inl (c2.1, u4 + 1)) else some (.inr (.inl (c2.1, u4)))))
def sX7_named_3 (x0 : Nat) (x1 : Nat) (x2 : Int32) (x3 : Int32) (z : (zS × Int32)) : Option ((zS × Int32) ⊕ ((zS × Int32) ⊕ zS)) := sX7_named_3b x0 x1 x2 x3 z.1 z.2
set_option maxRecDepth 100000 in
set_option maxHeartbeats 4000000 in
theorem wsX7_named_3b (C : zC p s m args meth c cX7_named RX7 5 D Ca B En) (hRm : zRm R 1 25 cells slots) (x0 : Nat) (x1 : Nat) (x2 : Int32) (x3 : Int32) (σ : zS) (u4 : Int32) (y : (zS × Int32) ⊕ ((zS × Int32) ⊕ zS)) (hf : sX7_named_3b x0 x1 x2 x3 σ u4 = some y) (hk : (∀ z : (zS × Int32), y = .inl z → zW p l e R s m args below meth c cells slots Q D Ca B 5 z.1 N 3 [(0, .ref x0), (1, .ref x1), (2, .int x2), (3, .int x3), (4, .int z.2)] []) ∧ (∀ z : (zS × Int32), y = .inr (.inl z) → zW p l e R s m args below meth c cells slots Q D Ca B 5 z.1 N 24 [(4, .int z.2)] []) ∧ (∀ z : zS, y = .inr (.inr z) → zW p l e R s m args below meth c cells slots Q D Ca B 5 z N 33 [] [])) : zW p l e R s m args below meth c cells slots Q D Ca B 5 σ N 3 [(0, .ref x0), (1, .ref x1), (2, .int x2), (3, .int x3), (4, .int u4)] [] := by
  unfold sX7_named_3b at hf
  refine z_iload C dX7_named_3 4 rfl ?_
  refine z_aload_n C dX7_named_5 rfl 0 rfl ?_
  obtain ⟨v1, hv1, hf⟩ := zbind hf
  refine gf_RX7_40 C hv1 dX7_named_6 ?_
  refine z_icmp_ge C 33 dX7_named_9 (by decide) (fun q4 => ?_) (fun q4 => ?_)
  · rw [if_pos q4] at hf
    cases hf
    refine z_sub [] rfl ?_
    exact hk.2.2 _ rfl
  · rw [if_neg q4] at hf
    refine z_aload_n C dX7_named_12 rfl 0 rfl ?_
    refine z_iload C dX7_named_13 4 rfl ?_
    refine z_aload_n C dX7_named_15 rfl 1 rfl ?_
    refine z_iload_n C dX7_named_16 rfl 2 rfl ?_
    refine z_iload_n C dX7_named_17 rfl 3 rfl ?_
    obtain ⟨c2, hc2, hf⟩ := zbind hf
    obtain ⟨kc2, hc2⟩ := zck_ok hc2
    refine z_callVi (As := [.int u4, .ref x1, .int x2, .int x3]) (F0 := 1) (L0 := 25) C (mX7_isName l D Ca B En C.2.2.2.2.2.2.2.1 σ N x0 u4 x1 x2 x3 _ hc2) hRm kc2 rfl kw_600 kw_5 kw_597 kw_599 kp_13 hyX7_isName (Nat.le_of_ble_eq_true rfl) (Nat.le_of_ble_eq_true rfl) rfl rfl (Nat.le_of_ble_eq_true rfl) dX7_named_18 ?_
    refine z_if_eq C 27 dX7_named_21 (by decide) (fun q3 => ?_) (fun q3 => ?_)
    · rw [if_pos q3] at hf
      refine z_iinc (lv2 := [(4, .int (u4 + 1)), (0, .ref x0), (1, .ref x1), (2, .int x2), (3, .int x3)]) C (u4 + 1) dX7_named_27 4 rfl rfl (by decide) rfl ?_
      refine z_goto C 3 dX7_named_30 (by decide) ?_
      cases hf
      refine z_sub [1, 2, 3, 4, 0] rfl ?_
      exact hk.1 _ rfl
    · rw [if_neg q3] at hf
      cases hf
      refine z_sub [4] rfl ?_
      exact hk.2.1 _ rfl

theorem wsX7_named_3 (C : zC p s m args meth c cX7_named RX7 5 D Ca B En) (hRm : zRm R 1 25 cells slots) (x0 : Nat) (x1 : Nat) (x2 : Int32) (x3 : Int32) (n : Nat) (z : (zS × Int32)) (x : ((zS × Int32) ⊕ zS)) (hf : zloop (sX7_named_3 x0 x1 x2 x3) n z = some x) (hk : (∀ o : (zS × Int32), x = (.inl o) → zW p l e R s m args below meth c cells slots Q D Ca B 5 o.1 N 24 [(4, .int o.2)] []) ∧ (∀ o : zS, x = (.inr o) → zW p l e R s m args below meth c cells slots Q D Ca B 5 o N 33 [] [])) : zW p l e R s m args below meth c cells slots Q D Ca B 5 z.1 N 3 [(0, .ref x0), (1, .ref x1), (2, .int x2), (3, .int x3), (4, .int z.2)] [] := by
  refine zloop_W (P := fun z : (zS × Int32) => zW p l e R s m args below meth c cells slots Q D Ca B 5 z.1 N 3 [(0, .ref x0), (1, .ref x1), (2, .int x2), (3, .int x3), (4, .int z.2)] []) (K := fun x : ((zS × Int32) ⊕ zS) => (∀ o : (zS × Int32), x = (.inl o) → zW p l e R s m args below meth c cells slots Q D Ca B 5 o.1 N 24 [(4, .int o.2)] []) ∧ (∀ o : zS, x = (.inr o) → zW p l e R s m args below meth c cells slots Q D Ca B 5 o N 33 [] [])) ?_ n z x hf hk
  intro z y hy h1 h2
  refine wsX7_named_3b C hRm x0 x1 x2 x3 z.1 z.2 y hy ⟨fun z2 e => h1 z2 e, fun o e => (h2 _ e).1 o rfl, fun o e => (h2 _ e).2 o rfl⟩
def fX7_named (σ : zS) (x0 : Nat) (x1 : Nat) (x2 : Int32) (x3 : Int32) : Option (zS × Int32) :=
  (zloop (sX7_named_3 x0 x1 x2 x3) zfuel (σ, 0)).bind fun o5 => (match o5 with | (.inl z6) => some (z6.1, z6.2) | (.inr z7) => some (z7, (-1)))
set_option maxRecDepth 100000 in
set_option maxHeartbeats 4000000 in
theorem wfX7_named (C : zC p s m args meth c cX7_named RX7 5 D Ca B En) (hRm : zRm R 1 25 cells slots) (σ : zS) (x0 : Nat) (x1 : Nat) (x2 : Int32) (x3 : Int32) (τ : zS) (r : Int32) (hf : fX7_named σ x0 x1 x2 x3 = some (τ, r)) (hq : ∀ (pc : Nat) (lv : List (Nat × Value)), decode cX7_named pc = .ok (.ireturn, 1) → zW p l e R s m args below meth c cells slots Q D Ca B 5 τ N pc lv [.int r]) : zW p l e R s m args below meth c cells slots Q D Ca B 5 σ N 0 [(0, .ref x0), (1, .ref x1), (2, .int x2), (3, .int x3)] [] := by
  unfold fX7_named at hf
  refine z_iconst C 0 dX7_named_0 (by decide) ?_
  refine z_istore (lv2 := [(4, .int 0), (0, .ref x0), (1, .ref x1), (2, .int x2), (3, .int x3)]) C dX7_named_1 (by decide) rfl ?_
  obtain ⟨o5, ho5, hf⟩ := zbind hf
  refine z_sub [1, 2, 3, 4, 0] rfl ?_
  refine wsX7_named_3 C hRm _ _ _ _ zfuel (σ, 0) o5 ho5 ⟨?_, ?_⟩
  · intro z6 e9
    subst e9
    dsimp only at hf
    refine z_iload C dX7_named_24 0 rfl ?_
    cases hf
    exact hq _ _ dX7_named_26
  · intro z7 e9
    subst e9
    dsimp only at hf
    refine z_iconst C (-1) dX7_named_33 (by decide) ?_
    cases hf
    exact hq _ _ dX7_named_34

theorem mX7_named (l : Launch) (D : va_G) (Ca : Nat → ClassId) (B : Nat) (En : State → Prop) (hE : zEk B En) (σ : zS) (N : Nat) (x0 : Nat) (x1 : Nat) (x2 : Int32) (x3 : Int32) (X : zS × Int32) (hf : fX7_named σ x0 x1 x2 x3 = some X) : zMi l D Ca B En yX7_named cX7_named 5 (Option.some Jvm.ClassFile.FieldType.int) 1 25 [.ref x0, .ref x1, .int x2, .int x3] σ N X.1 X.2 :=
  zMet_i (own := RX7) hE (by decide +kernel) rfl (Nat.le_of_ble_eq_true rfl) (fun p e s m args below meth c C hr hRm => wfX7_named C hRm σ x0 x1 x2 x3 X.1 X.2 hf (fun pc lv hd => zfin_i C hr hd))
theorem dX7_setName_0 : decode cX7_setName 0 = .ok (.iload_n 1, 1) := by decide +kernel
theorem dX7_setName_1 : decode cX7_setName 1 = .ok (.ifCond .lt 33, 3) := by decide +kernel
theorem dX7_setName_4 : decode cX7_setName 4 = .ok (.iload_n 1, 1) := by decide +kernel
theorem dX7_setName_5 : decode cX7_setName 5 = .ok (.iconst 4, 1) := by decide +kernel
theorem dX7_setName_6 : decode cX7_setName 6 = .ok (.if_icmp .ge 28, 3) := by decide +kernel
theorem dX7_setName_9 : decode cX7_setName 9 = .ok (.iload 4, 2) := by decide +kernel
theorem dX7_setName_11 : decode cX7_setName 11 = .ok (.ifCond .lt 23, 3) := by decide +kernel
theorem dX7_setName_14 : decode cX7_setName 14 = .ok (.iload 4, 2) := by decide +kernel
theorem dX7_setName_16 : decode cX7_setName 16 = .ok (.bipush 8, 2) := by decide +kernel
theorem dX7_setName_18 : decode cX7_setName 18 = .ok (.if_icmp .gt 16, 3) := by decide +kernel
theorem dX7_setName_21 : decode cX7_setName 21 = .ok (.iload_n 3, 1) := by decide +kernel
theorem dX7_setName_22 : decode cX7_setName 22 = .ok (.ifCond .lt 12, 3) := by decide +kernel
theorem dX7_setName_25 : decode cX7_setName 25 = .ok (.iload_n 3, 1) := by decide +kernel
theorem dX7_setName_26 : decode cX7_setName 26 = .ok (.iload 4, 2) := by decide +kernel
theorem dX7_setName_28 : decode cX7_setName 28 = .ok (.iadd, 1) := by decide +kernel
theorem dX7_setName_29 : decode cX7_setName 29 = .ok (.aload_n 2, 1) := by decide +kernel
theorem dX7_setName_30 : decode cX7_setName 30 = .ok (.arraylength, 1) := by decide +kernel
theorem dX7_setName_31 : decode cX7_setName 31 = .ok (.if_icmp .le 4, 3) := by decide +kernel
theorem dX7_setName_34 : decode cX7_setName 34 = .ok (.return_, 1) := by decide +kernel
theorem dX7_setName_35 : decode cX7_setName 35 = .ok (.aload_n 2, 1) := by decide +kernel
theorem dX7_setName_36 : decode cX7_setName 36 = .ok (.iload_n 3, 1) := by decide +kernel
theorem dX7_setName_37 : decode cX7_setName 37 = .ok (.aload_n 0, 1) := by decide +kernel
theorem dX7_setName_38 : decode cX7_setName 38 = .ok (.getfield 24, 3) := by decide +kernel
theorem dX7_setName_41 : decode cX7_setName 41 = .ok (.bipush 8, 2) := by decide +kernel
theorem dX7_setName_43 : decode cX7_setName 43 = .ok (.iload_n 1, 1) := by decide +kernel
theorem dX7_setName_44 : decode cX7_setName 44 = .ok (.imul, 1) := by decide +kernel
theorem dX7_setName_45 : decode cX7_setName 45 = .ok (.iload 4, 2) := by decide +kernel
theorem dX7_setName_47 : decode cX7_setName 47 = .ok (.invokestatic 84, 3) := by decide +kernel
theorem dX7_setName_50 : decode cX7_setName 50 = .ok (.aload_n 0, 1) := by decide +kernel
theorem dX7_setName_51 : decode cX7_setName 51 = .ok (.getfield 21, 3) := by decide +kernel
theorem dX7_setName_54 : decode cX7_setName 54 = .ok (.iload_n 1, 1) := by decide +kernel
theorem dX7_setName_55 : decode cX7_setName 55 = .ok (.iload 4, 2) := by decide +kernel
theorem dX7_setName_57 : decode cX7_setName 57 = .ok (.iastore, 1) := by decide +kernel
theorem dX7_setName_58 : decode cX7_setName 58 = .ok (.return_, 1) := by decide +kernel
theorem hyX7_setName : yX7_setName.cls ≠ "java/lang/invoke/MethodHandle" ∧ yX7_setName.cls ≠ "java/lang/invoke/VarHandle" ∧ (parseMethodDescriptor yX7_setName.desc).map (fun d => d.parameters.length) = some 4 := ⟨by decide +kernel, by decide +kernel, by decide +kernel⟩
def fX7_setName (σ : zS) (x0 : Nat) (x1 : Int32) (x2 : Nat) (x3 : Int32) (x4 : Int32) : Option zS :=
  (if x1 < 0 then some σ else (if 4 ≤ x1 then some σ else (if x4 < 0 then some σ else (if 8 < x4 then some σ else (if x3 < 0 then some σ else (zlen σ x2).bind fun v1 => (if (x3 + x4) ≤ v1 then (zgR 7 6 σ x0).bind fun v2 => (zcY σ x2 x3 v2 (8 * x1) x4).bind fun σ3 => (zgR 7 5 σ3 x0).bind fun v4 => (zsI σ3 v4 x1 x4).bind fun σ5 => some σ5 else some σ))))))
set_option maxRecDepth 100000 in
set_option maxHeartbeats 4000000 in
theorem wfX7_setName (C : zC p s m args meth c cX7_setName RX7 5 D Ca B En) (hRm : zRm R 1 64 cells slots) (σ : zS) (x0 : Nat) (x1 : Int32) (x2 : Nat) (x3 : Int32) (x4 : Int32) (τ : zS) (hf : fX7_setName σ x0 x1 x2 x3 x4 = some τ) (hq : ∀ (pc : Nat) (lv : List (Nat × Value)), decode cX7_setName pc = .ok (.return_, 1) → zW p l e R s m args below meth c cells slots Q D Ca B 5 τ N pc lv []) : zW p l e R s m args below meth c cells slots Q D Ca B 5 σ N 0 [(0, .ref x0), (1, .int x1), (2, .ref x2), (3, .int x3), (4, .int x4)] [] := by
  unfold fX7_setName at hf
  refine z_iload_n C dX7_setName_0 rfl 1 rfl ?_
  refine z_if_lt C 34 dX7_setName_1 (by decide) (fun q11 => ?_) (fun q11 => ?_)
  · rw [if_pos q11] at hf
    cases hf
    exact hq _ _ dX7_setName_34
  · rw [if_neg q11] at hf
    refine z_iload_n C dX7_setName_4 rfl 1 rfl ?_
    refine z_iconst C 4 dX7_setName_5 (by decide) ?_
    refine z_icmp_ge C 34 dX7_setName_6 (by decide) (fun q10 => ?_) (fun q10 => ?_)
    · rw [if_pos q10] at hf
      cases hf
      exact hq _ _ dX7_setName_34
    · rw [if_neg q10] at hf
      refine z_iload C dX7_setName_9 4 rfl ?_
      refine z_if_lt C 34 dX7_setName_11 (by decide) (fun q9 => ?_) (fun q9 => ?_)
      · rw [if_pos q9] at hf
        cases hf
        exact hq _ _ dX7_setName_34
      · rw [if_neg q9] at hf
        refine z_iload C dX7_setName_14 4 rfl ?_
        refine z_bipush C 8 dX7_setName_16 (by decide) ?_
        refine z_icmp_gt C 34 dX7_setName_18 (by decide) (fun q8 => ?_) (fun q8 => ?_)
        · rw [if_pos q8] at hf
          cases hf
          exact hq _ _ dX7_setName_34
        · rw [if_neg q8] at hf
          refine z_iload_n C dX7_setName_21 rfl 3 rfl ?_
          refine z_if_lt C 34 dX7_setName_22 (by decide) (fun q7 => ?_) (fun q7 => ?_)
          · rw [if_pos q7] at hf
            cases hf
            exact hq _ _ dX7_setName_34
          · rw [if_neg q7] at hf
            refine z_iload_n C dX7_setName_25 rfl 3 rfl ?_
            refine z_iload C dX7_setName_26 4 rfl ?_
            refine z_iadd C dX7_setName_28 ?_
            refine z_aload_n C dX7_setName_29 rfl 2 rfl ?_
            obtain ⟨v1, hv1, hf⟩ := zbind hf
            refine z_alen C hv1 dX7_setName_30 ?_
            refine z_icmp_le C 35 dX7_setName_31 (by decide) (fun q6 => ?_) (fun q6 => ?_)
            · rw [if_pos q6] at hf
              refine z_aload_n C dX7_setName_35 rfl 2 rfl ?_
              refine z_iload_n C dX7_setName_36 rfl 3 rfl ?_
              refine z_aload_n C dX7_setName_37 rfl 0 rfl ?_
              obtain ⟨v2, hv2, hf⟩ := zbind hf
              refine gf_RX7_24 C hv2 dX7_setName_38 ?_
              refine z_bipush C 8 dX7_setName_41 (by decide) ?_
              refine z_iload_n C dX7_setName_43 rfl 1 rfl ?_
              refine z_imul C dX7_setName_44 ?_
              refine z_iload C dX7_setName_45 4 rfl ?_
              obtain ⟨σ3, hσ3, hf⟩ := zbind hf
              refine z_cY C hσ3 (FR := 1) (LR := 64) hRm (Nat.le_of_ble_eq_true rfl) (Nat.le_of_ble_eq_true rfl) kw_605 kw_305 kw_304 kw_12 (Nat.le_of_ble_eq_true rfl) dX7_setName_47 ?_
              refine z_aload_n C dX7_setName_50 rfl 0 rfl ?_
              obtain ⟨v4, hv4, hf⟩ := zbind hf
              refine gf_RX7_21 C hv4 dX7_setName_51 ?_
              refine z_iload_n C dX7_setName_54 rfl 1 rfl ?_
              refine z_iload C dX7_setName_55 4 rfl ?_
              obtain ⟨σ5, hσ5, hf⟩ := zbind hf
              refine z_sI C hσ5 dX7_setName_57 ?_
              cases hf
              exact hq _ _ dX7_setName_58
            · rw [if_neg q6] at hf
              cases hf
              exact hq _ _ dX7_setName_34

theorem mX7_setName (l : Launch) (D : va_G) (Ca : Nat → ClassId) (B : Nat) (En : State → Prop) (hE : zEk B En) (σ : zS) (N : Nat) (x0 : Nat) (x1 : Int32) (x2 : Nat) (x3 : Int32) (x4 : Int32) (X : zS) (hf : fX7_setName σ x0 x1 x2 x3 x4 = some X) : zMv l D Ca B En yX7_setName cX7_setName 5 (Option.none : Option Jvm.ClassFile.FieldType) 1 64 [.ref x0, .int x1, .ref x2, .int x3, .int x4] σ N X () :=
  zMet_v (own := RX7) hE (by decide +kernel) rfl (Nat.le_of_ble_eq_true rfl) (fun p e s m args below meth c C hr hRm => wfX7_setName C hRm σ x0 x1 x2 x3 x4 X hf (fun pc lv hd => zfin_v (r := ()) C hr hd))
theorem dX5_readSemicolon_0 : decode cX5_readSemicolon 0 = .ok (.aload_n 0, 1) := by decide +kernel
theorem dX5_readSemicolon_1 : decode cX5_readSemicolon 1 = .ok (.getfield 37, 3) := by decide +kernel
theorem dX5_readSemicolon_4 : decode cX5_readSemicolon 4 = .ok (.iconst 3, 1) := by decide +kernel
theorem dX5_readSemicolon_5 : decode cX5_readSemicolon 5 = .ok (.if_icmp .eq 9, 3) := by decide +kernel
theorem dX5_readSemicolon_8 : decode cX5_readSemicolon 8 = .ok (.aload_n 0, 1) := by decide +kernel
theorem dX5_readSemicolon_9 : decode cX5_readSemicolon 9 = .ok (.iconst 1, 1) := by decide +kernel
theorem dX5_readSemicolon_10 : decode cX5_readSemicolon 10 = .ok (.invokevirtual 47, 3) := by decide +kernel
theorem dX5_readSemicolon_13 : decode cX5_readSemicolon 13 = .ok (.ireturn, 1) := by decide +kernel
theorem dX5_readSemicolon_14 : decode cX5_readSemicolon 14 = .ok (.aload_n 0, 1) := by decide +kernel
theorem dX5_readSemicolon_15 : decode cX5_readSemicolon 15 = .ok (.invokevirtual 34, 3) := by decide +kernel
theorem dX5_readSemicolon_18 : decode cX5_readSemicolon 18 = .ok (.iconst 1, 1) := by decide +kernel
theorem dX5_readSemicolon_19 : decode cX5_readSemicolon 19 = .ok (.ireturn, 1) := by decide +kernel
theorem hyX5_readSemicolon : yX5_readSemicolon.cls ≠ "java/lang/invoke/MethodHandle" ∧ yX5_readSemicolon.cls ≠ "java/lang/invoke/VarHandle" ∧ (parseMethodDescriptor yX5_readSemicolon.desc).map (fun d => d.parameters.length) = some 0 := ⟨by decide +kernel, by decide +kernel, by decide +kernel⟩
def fX5_readSemicolon (σ : zS) (x0 : Nat) : Option (zS × Int32) :=
  (zgI 5 4 σ x0).bind fun v1 => (if v1 = 3 then (zck 5 σ x0 (fX5_advance σ x0 )).bind fun c2 => zrZ c2 1 else (zck 5 σ x0 (fX5_refuse σ x0 1)).bind fun c3 => zrZ c3.1 c3.2)
set_option maxRecDepth 100000 in
set_option maxHeartbeats 4000000 in
theorem wfX5_readSemicolon (C : zC p s m args meth c cX5_readSemicolon RX5 1 D Ca B En) (hRm : zRm R 3 63 cells slots) (σ : zS) (x0 : Nat) (τ : zS) (r : Int32) (hf : fX5_readSemicolon σ x0 = some (τ, r)) (hq : ∀ (pc : Nat) (lv : List (Nat × Value)), (r = 0 ∨ r = 1) → decode cX5_readSemicolon pc = .ok (.ireturn, 1) → zW p l e R s m args below meth c cells slots Q D Ca B 1 τ N pc lv [.int r]) : zW p l e R s m args below meth c cells slots Q D Ca B 1 σ N 0 [(0, .ref x0)] [] := by
  unfold fX5_readSemicolon at hf
  refine z_aload_n C dX5_readSemicolon_0 rfl 0 rfl ?_
  obtain ⟨v1, hv1, hf⟩ := zbind hf
  refine gf_RX5_37 C hv1 dX5_readSemicolon_1 ?_
  refine z_iconst C 3 dX5_readSemicolon_4 (by decide) ?_
  refine z_icmp_eq C 14 dX5_readSemicolon_5 (by decide) (fun q4 => ?_) (fun q4 => ?_)
  · rw [if_pos q4] at hf
    refine z_aload_n C dX5_readSemicolon_14 rfl 0 rfl ?_
    obtain ⟨c2, hc2, hf⟩ := zbind hf
    obtain ⟨kc2, hc2⟩ := zck_ok hc2
    refine z_callVv (As := []) (F0 := 3) (L0 := 63) C (mX5_advance l D Ca B En C.2.2.2.2.2.2.2.1 σ N x0  _ hc2) hRm kc2 rfl kw_508 kw_3 kw_505 kw_507 kp_5 hyX5_advance (Nat.le_of_ble_eq_true rfl) (Nat.le_of_ble_eq_true rfl) rfl rfl (Nat.le_of_ble_eq_true rfl) dX5_readSemicolon_15 ?_
    refine z_iconst C 1 dX5_readSemicolon_18 (by decide) ?_
    obtain ⟨e9, b9⟩ := zrZ_ok hf
    cases e9
    exact hq _ _ b9 dX5_readSemicolon_19
  · rw [if_neg q4] at hf
    refine z_aload_n C dX5_readSemicolon_8 rfl 0 rfl ?_
    refine z_iconst C 1 dX5_readSemicolon_9 (by decide) ?_
    obtain ⟨c3, hc3, hf⟩ := zbind hf
    obtain ⟨kc3, hc3⟩ := zck_ok hc3
    refine z_callVi (As := [.int 1]) (F0 := 3) (L0 := 63) C (mX5_refuse l D Ca B En C.2.2.2.2.2.2.2.1 σ N x0 1 _ hc3) hRm kc3 rfl kw_588 kw_3 kw_585 kw_587 kp_11 hyX5_refuse (Nat.le_of_ble_eq_true rfl) (Nat.le_of_ble_eq_true rfl) rfl rfl (Nat.le_of_ble_eq_true rfl) dX5_readSemicolon_10 ?_
    obtain ⟨e9, b9⟩ := zrZ_ok hf
    cases e9
    exact hq _ _ b9 dX5_readSemicolon_13

theorem mX5_readSemicolon (l : Launch) (D : va_G) (Ca : Nat → ClassId) (B : Nat) (En : State → Prop) (hE : zEk B En) (σ : zS) (N : Nat) (x0 : Nat) (X : zS × Int32) (hf : fX5_readSemicolon σ x0 = some X) : zMi l D Ca B En yX5_readSemicolon cX5_readSemicolon 1 (Option.some Jvm.ClassFile.FieldType.boolean) 3 63 [.ref x0] σ N X.1 X.2 :=
  zMet_i (own := RX5) hE (by decide +kernel) rfl (Nat.le_of_ble_eq_true rfl) (fun p e s m args below meth c C hr hRm => wfX5_readSemicolon C hRm σ x0 X.1 X.2 hf (fun pc lv hb hd => zfin_z C hb hr hd))
theorem dX7_makeRecords_0 : decode cX7_makeRecords 0 = .ok (.aload_n 0, 1) := by decide +kernel
theorem dX7_makeRecords_1 : decode cX7_makeRecords 1 = .ok (.getfield 15, 3) := by decide +kernel
theorem dX7_makeRecords_4 : decode cX7_makeRecords 4 = .ok (.iload_n 1, 1) := by decide +kernel
theorem dX7_makeRecords_5 : decode cX7_makeRecords 5 = .ok (.iaload, 1) := by decide +kernel
theorem dX7_makeRecords_6 : decode cX7_makeRecords 6 = .ok (.istore_n 2, 1) := by decide +kernel
theorem dX7_makeRecords_7 : decode cX7_makeRecords 7 = .ok (.iconst 0, 1) := by decide +kernel
theorem dX7_makeRecords_8 : decode cX7_makeRecords 8 = .ok (.istore_n 3, 1) := by decide +kernel
theorem dX7_makeRecords_9 : decode cX7_makeRecords 9 = .ok (.iload_n 3, 1) := by decide +kernel
theorem dX7_makeRecords_10 : decode cX7_makeRecords 10 = .ok (.aload_n 0, 1) := by decide +kernel
theorem dX7_makeRecords_11 : decode cX7_makeRecords 11 = .ok (.getfield 9, 3) := by decide +kernel
theorem dX7_makeRecords_14 : decode cX7_makeRecords 14 = .ok (.iload_n 1, 1) := by decide +kernel
theorem dX7_makeRecords_15 : decode cX7_makeRecords 15 = .ok (.iaload, 1) := by decide +kernel
theorem dX7_makeRecords_16 : decode cX7_makeRecords 16 = .ok (.if_icmp .ge 63, 3) := by decide +kernel
theorem dX7_makeRecords_19 : decode cX7_makeRecords 19 = .ok (.iload_n 3, 1) := by decide +kernel
theorem dX7_makeRecords_20 : decode cX7_makeRecords 20 = .ok (.sipush 200, 3) := by decide +kernel
theorem dX7_makeRecords_23 : decode cX7_makeRecords 23 = .ok (.if_icmp .ge 56, 3) := by decide +kernel
theorem dX7_makeRecords_26 : decode cX7_makeRecords 26 = .ok (.iload_n 1, 1) := by decide +kernel
theorem dX7_makeRecords_27 : decode cX7_makeRecords 27 = .ok (.iload_n 3, 1) := by decide +kernel
theorem dX7_makeRecords_28 : decode cX7_makeRecords 28 = .ok (.invokestatic 74, 3) := by decide +kernel
theorem dX7_makeRecords_31 : decode cX7_makeRecords 31 = .ok (.istore 4, 2) := by decide +kernel
theorem dX7_makeRecords_33 : decode cX7_makeRecords 33 = .ok (.aload_n 0, 1) := by decide +kernel
theorem dX7_makeRecords_34 : decode cX7_makeRecords 34 = .ok (.getfield 31, 3) := by decide +kernel
theorem dX7_makeRecords_37 : decode cX7_makeRecords 37 = .ok (.iload 4, 2) := by decide +kernel
theorem dX7_makeRecords_39 : decode cX7_makeRecords 39 = .ok (.iconst 4, 1) := by decide +kernel
theorem dX7_makeRecords_40 : decode cX7_makeRecords 40 = .ok (.iload_n 2, 1) := by decide +kernel
theorem dX7_makeRecords_41 : decode cX7_makeRecords 41 = .ok (.iload_n 3, 1) := by decide +kernel
theorem dX7_makeRecords_42 : decode cX7_makeRecords 42 = .ok (.iload_n 3, 1) := by decide +kernel
theorem dX7_makeRecords_43 : decode cX7_makeRecords 43 = .ok (.imul, 1) := by decide +kernel
theorem dX7_makeRecords_44 : decode cX7_makeRecords 44 = .ok (.iadd, 1) := by decide +kernel
theorem dX7_makeRecords_45 : decode cX7_makeRecords 45 = .ok (.iload_n 3, 1) := by decide +kernel
theorem dX7_makeRecords_46 : decode cX7_makeRecords 46 = .ok (.iconst 2, 1) := by decide +kernel
theorem dX7_makeRecords_47 : decode cX7_makeRecords 47 = .ok (.idiv, 1) := by decide +kernel
theorem dX7_makeRecords_48 : decode cX7_makeRecords 48 = .ok (.iadd, 1) := by decide +kernel
theorem dX7_makeRecords_49 : decode cX7_makeRecords 49 = .ok (.iconst 4, 1) := by decide +kernel
theorem dX7_makeRecords_50 : decode cX7_makeRecords 50 = .ok (.irem, 1) := by decide +kernel
theorem dX7_makeRecords_51 : decode cX7_makeRecords 51 = .ok (.imul, 1) := by decide +kernel
theorem dX7_makeRecords_52 : decode cX7_makeRecords 52 = .ok (.iload_n 1, 1) := by decide +kernel
theorem dX7_makeRecords_53 : decode cX7_makeRecords 53 = .ok (.iadd, 1) := by decide +kernel
theorem dX7_makeRecords_54 : decode cX7_makeRecords 54 = .ok (.iastore, 1) := by decide +kernel
theorem dX7_makeRecords_55 : decode cX7_makeRecords 55 = .ok (.aload_n 0, 1) := by decide +kernel
theorem dX7_makeRecords_56 : decode cX7_makeRecords 56 = .ok (.getfield 34, 3) := by decide +kernel
theorem dX7_makeRecords_59 : decode cX7_makeRecords 59 = .ok (.iload 4, 2) := by decide +kernel
theorem dX7_makeRecords_61 : decode cX7_makeRecords 61 = .ok (.iload_n 2, 1) := by decide +kernel
theorem dX7_makeRecords_62 : decode cX7_makeRecords 62 = .ok (.bipush 7, 2) := by decide +kernel
theorem dX7_makeRecords_64 : decode cX7_makeRecords 64 = .ok (.iload_n 3, 1) := by decide +kernel
theorem dX7_makeRecords_65 : decode cX7_makeRecords 65 = .ok (.imul, 1) := by decide +kernel
theorem dX7_makeRecords_66 : decode cX7_makeRecords 66 = .ok (.iadd, 1) := by decide +kernel
theorem dX7_makeRecords_67 : decode cX7_makeRecords 67 = .ok (.bipush 50, 2) := by decide +kernel
theorem dX7_makeRecords_69 : decode cX7_makeRecords 69 = .ok (.irem, 1) := by decide +kernel
theorem dX7_makeRecords_70 : decode cX7_makeRecords 70 = .ok (.iconst 1, 1) := by decide +kernel
theorem dX7_makeRecords_71 : decode cX7_makeRecords 71 = .ok (.iadd, 1) := by decide +kernel
theorem dX7_makeRecords_72 : decode cX7_makeRecords 72 = .ok (.iastore, 1) := by decide +kernel
theorem dX7_makeRecords_73 : decode cX7_makeRecords 73 = .ok (.iinc 3 1, 3) := by decide +kernel
theorem dX7_makeRecords_76 : decode cX7_makeRecords 76 = .ok (.goto (-67), 3) := by decide +kernel
theorem dX7_makeRecords_79 : decode cX7_makeRecords 79 = .ok (.return_, 1) := by decide +kernel
theorem hyX7_makeRecords : yX7_makeRecords.cls ≠ "java/lang/invoke/MethodHandle" ∧ yX7_makeRecords.cls ≠ "java/lang/invoke/VarHandle" ∧ (parseMethodDescriptor yX7_makeRecords.desc).map (fun d => d.parameters.length) = some 1 := ⟨by decide +kernel, by decide +kernel, by decide +kernel⟩
def sX7_makeRecords_9b (x0 : Nat) (x1 : Int32) (x2 : Int32) (σ : zS) (u3 : Int32) : Option ((zS × Int32) ⊕ zS) :=
  (zgR 7 2 σ x0).bind fun v3 => (zaI σ v3 x1).bind fun v4 => (if v4 ≤ u3 then some (.inr σ) else (if 200 ≤ u3 then some (.inr σ) else (fX9_numberOf σ x1 u3).bind fun c5 => (zgR 7 8 c5.1 x0).bind fun v6 => (zsI c5.1 v6 c5.2 ((4 * (((x2 + (u3 * u3)) + (u3 / 2)) - ((x2 + (u3 * u3)) + (u3 / 2)) / 4 * 4)) + x1)).bind fun σ7 => (zgR 7 9 σ7 x0).bind fun v8 => (zsI σ7 v8 c5.2 (((x2 + (7 * u3)) - (x2 + (7 * u3)) / 50 * 50) + 1)).bind fun σ9 => some (.inl (σ9, u3 + 1))))
def sX7_makeRecords_9 (x0 : Nat) (x1 : Int32) (x2 : Int32) (z : (zS × Int32)) : Option ((zS × Int32) ⊕ zS) := sX7_makeRecords_9b x0 x1 x2 z.1 z.2
set_option maxRecDepth 100000 in
set_option maxHeartbeats 4000000 in
theorem wsX7_makeRecords_9b (C : zC p s m args meth c cX7_makeRecords RX7 5 D Ca B En) (hRm : zRm R 1 21 cells slots) (x0 : Nat) (x1 : Int32) (x2 : Int32) (σ : zS) (u3 : Int32) (y : (zS × Int32) ⊕ zS) (hf : sX7_makeRecords_9b x0 x1 x2 σ u3 = some y) (hk : (∀ z : (zS × Int32), y = .inl z → zW p l e R s m args below meth c cells slots Q D Ca B 5 z.1 N 9 [(0, .ref x0), (1, .int x1), (2, .int x2), (3, .int z.2)] []) ∧ (∀ z : zS, y = .inr z → zW p l e R s m args below meth c cells slots Q D Ca B 5 z N 79 [] [])) : zW p l e R s m args below meth c cells slots Q D Ca B 5 σ N 9 [(0, .ref x0), (1, .int x1), (2, .int x2), (3, .int u3)] [] := by
  unfold sX7_makeRecords_9b at hf
  refine z_iload_n C dX7_makeRecords_9 rfl 3 rfl ?_
  refine z_aload_n C dX7_makeRecords_10 rfl 0 rfl ?_
  obtain ⟨v3, hv3, hf⟩ := zbind hf
  refine gf_RX7_9 C hv3 dX7_makeRecords_11 ?_
  refine z_iload_n C dX7_makeRecords_14 rfl 1 rfl ?_
  obtain ⟨v4, hv4, hf⟩ := zbind hf
  refine z_aI C hv4 dX7_makeRecords_15 ?_
  refine z_icmp_ge C 79 dX7_makeRecords_16 (by decide) (fun q11 => ?_) (fun q11 => ?_)
  · rw [if_pos q11] at hf
    cases hf
    refine z_sub [] rfl ?_
    exact hk.2 _ rfl
  · rw [if_neg q11] at hf
    refine z_iload_n C dX7_makeRecords_19 rfl 3 rfl ?_
    refine z_sipush C 200 dX7_makeRecords_20 (by decide) ?_
    refine z_icmp_ge C 79 dX7_makeRecords_23 (by decide) (fun q10 => ?_) (fun q10 => ?_)
    · rw [if_pos q10] at hf
      cases hf
      refine z_sub [] rfl ?_
      exact hk.2 _ rfl
    · rw [if_neg q10] at hf
      refine z_iload_n C dX7_makeRecords_26 rfl 1 rfl ?_
      refine z_iload_n C dX7_makeRecords_27 rfl 3 rfl ?_
      obtain ⟨c5, hc5, hf⟩ := zbind hf
      refine z_callSNi (host := "BarrierFlow") (As := [.int x1, .int u3]) (F0 := 1) (L0 := 21) C (mX9_numberOf l D Ca B En C.2.2.2.2.2.2.2.1 σ N x1 u3 _ hc5) hRm kw_184 kw_1 (by decide) kw_183 hyX9_numberOf (Nat.le_of_ble_eq_true rfl) (Nat.le_of_ble_eq_true rfl) rfl rfl (Nat.le_of_ble_eq_true rfl) dX7_makeRecords_28 ?_
      refine z_istore (lv2 := [(4, .int c5.2), (0, .ref x0), (1, .int x1), (2, .int x2), (3, .int u3)]) C dX7_makeRecords_31 (by decide) rfl ?_
      refine z_aload_n C dX7_makeRecords_33 rfl 1 rfl ?_
      obtain ⟨v6, hv6, hf⟩ := zbind hf
      refine gf_RX7_31 C hv6 dX7_makeRecords_34 ?_
      refine z_iload C dX7_makeRecords_37 0 rfl ?_
      refine z_iconst C 4 dX7_makeRecords_39 (by decide) ?_
      refine z_iload_n C dX7_makeRecords_40 rfl 3 rfl ?_
      refine z_iload_n C dX7_makeRecords_41 rfl 4 rfl ?_
      refine z_iload_n C dX7_makeRecords_42 rfl 4 rfl ?_
      refine z_imul C dX7_makeRecords_43 ?_
      refine z_iadd C dX7_makeRecords_44 ?_
      refine z_iload_n C dX7_makeRecords_45 rfl 4 rfl ?_
      refine z_iconst C 2 dX7_makeRecords_46 (by decide) ?_
      refine z_idiv C dX7_makeRecords_47 (by decide) ?_
      refine z_iadd C dX7_makeRecords_48 ?_
      refine z_iconst C 4 dX7_makeRecords_49 (by decide) ?_
      refine z_irem C dX7_makeRecords_50 (by decide) ?_
      refine z_imul C dX7_makeRecords_51 ?_
      refine z_iload_n C dX7_makeRecords_52 rfl 2 rfl ?_
      refine z_iadd C dX7_makeRecords_53 ?_
      obtain ⟨σ7, hσ7, hf⟩ := zbind hf
      refine z_sI C hσ7 dX7_makeRecords_54 ?_
      refine z_aload_n C dX7_makeRecords_55 rfl 1 rfl ?_
      obtain ⟨v8, hv8, hf⟩ := zbind hf
      refine gf_RX7_34 C hv8 dX7_makeRecords_56 ?_
      refine z_iload C dX7_makeRecords_59 0 rfl ?_
      refine z_iload_n C dX7_makeRecords_61 rfl 3 rfl ?_
      refine z_bipush C 7 dX7_makeRecords_62 (by decide) ?_
      refine z_iload_n C dX7_makeRecords_64 rfl 4 rfl ?_
      refine z_imul C dX7_makeRecords_65 ?_
      refine z_iadd C dX7_makeRecords_66 ?_
      refine z_bipush C 50 dX7_makeRecords_67 (by decide) ?_
      refine z_irem C dX7_makeRecords_69 (by decide) ?_
      refine z_iconst C 1 dX7_makeRecords_70 (by decide) ?_
      refine z_iadd C dX7_makeRecords_71 ?_
      obtain ⟨σ9, hσ9, hf⟩ := zbind hf
      refine z_sI C hσ9 dX7_makeRecords_72 ?_
      refine z_iinc (lv2 := [(3, .int (u3 + 1)), (4, .int c5.2), (0, .ref x0), (1, .int x1), (2, .int x2)]) C (u3 + 1) dX7_makeRecords_73 4 rfl rfl (by decide) rfl ?_
      refine z_goto C 9 dX7_makeRecords_76 (by decide) ?_
      cases hf
      refine z_sub [2, 3, 4, 0] rfl ?_
      exact hk.1 _ rfl

theorem wsX7_makeRecords_9 (C : zC p s m args meth c cX7_makeRecords RX7 5 D Ca B En) (hRm : zRm R 1 21 cells slots) (x0 : Nat) (x1 : Int32) (x2 : Int32) (n : Nat) (z : (zS × Int32)) (x : zS) (hf : zloop (sX7_makeRecords_9 x0 x1 x2) n z = some x) (hk : (∀ o : zS, x = o → zW p l e R s m args below meth c cells slots Q D Ca B 5 o N 79 [] [])) : zW p l e R s m args below meth c cells slots Q D Ca B 5 z.1 N 9 [(0, .ref x0), (1, .int x1), (2, .int x2), (3, .int z.2)] [] := by
  refine zloop_W (P := fun z : (zS × Int32) => zW p l e R s m args below meth c cells slots Q D Ca B 5 z.1 N 9 [(0, .ref x0), (1, .int x1), (2, .int x2), (3, .int z.2)] []) (K := fun x : zS => (∀ o : zS, x = o → zW p l e R s m args below meth c cells slots Q D Ca B 5 o N 79 [] [])) ?_ n z x hf hk
  intro z y hy h1 h2
  refine wsX7_makeRecords_9b C hRm x0 x1 x2 z.1 z.2 y hy ⟨fun z2 e => h1 z2 e, fun o e => (h2 _ e) o rfl⟩
def fX7_makeRecords (σ : zS) (x0 : Nat) (x1 : Int32) : Option zS :=
  (zgR 7 3 σ x0).bind fun v1 => (zaI σ v1 x1).bind fun v2 => (zloop (sX7_makeRecords_9 x0 x1 v2) zfuel (σ, 0)).bind fun o12 => some o12
set_option maxRecDepth 100000 in
set_option maxHeartbeats 4000000 in
theorem wfX7_makeRecords (C : zC p s m args meth c cX7_makeRecords RX7 5 D Ca B En) (hRm : zRm R 1 21 cells slots) (σ : zS) (x0 : Nat) (x1 : Int32) (τ : zS) (hf : fX7_makeRecords σ x0 x1 = some τ) (hq : ∀ (pc : Nat) (lv : List (Nat × Value)), decode cX7_makeRecords pc = .ok (.return_, 1) → zW p l e R s m args below meth c cells slots Q D Ca B 5 τ N pc lv []) : zW p l e R s m args below meth c cells slots Q D Ca B 5 σ N 0 [(0, .ref x0), (1, .int x1)] [] := by
  unfold fX7_makeRecords at hf
  refine z_aload_n C dX7_makeRecords_0 rfl 0 rfl ?_
  obtain ⟨v1, hv1, hf⟩ := zbind hf
  refine gf_RX7_15 C hv1 dX7_makeRecords_1 ?_
  refine z_iload_n C dX7_makeRecords_4 rfl 1 rfl ?_
  obtain ⟨v2, hv2, hf⟩ := zbind hf
  refine z_aI C hv2 dX7_makeRecords_5 ?_
  refine z_istore_n (lv2 := [(2, .int v2), (0, .ref x0), (1, .int x1)]) C dX7_makeRecords_6 rfl (by decide) rfl ?_
  refine z_iconst C 0 dX7_makeRecords_7 (by decide) ?_
  refine z_istore_n (lv2 := [(3, .int 0), (2, .int v2), (0, .ref x0), (1, .int x1)]) C dX7_makeRecords_8 rfl (by decide) rfl ?_
  obtain ⟨o12, ho12, hf⟩ := zbind hf
  refine z_sub [2, 3, 1, 0] rfl ?_
  refine wsX7_makeRecords_9 C hRm _ _ _ zfuel (σ, 0) o12 ho12 ?_
  intro z9 e9
  subst e9
  cases hf
  exact hq _ _ dX7_makeRecords_79

theorem mX7_makeRecords (l : Launch) (D : va_G) (Ca : Nat → ClassId) (B : Nat) (En : State → Prop) (hE : zEk B En) (σ : zS) (N : Nat) (x0 : Nat) (x1 : Int32) (X : zS) (hf : fX7_makeRecords σ x0 x1 = some X) : zMv l D Ca B En yX7_makeRecords cX7_makeRecords 5 (Option.none : Option Jvm.ClassFile.FieldType) 1 21 [.ref x0, .int x1] σ N X () :=
  zMet_v (own := RX7) hE (by decide +kernel) rfl (Nat.le_of_ble_eq_true rfl) (fun p e s m args below meth c C hr hRm => wfX7_makeRecords C hRm σ x0 x1 X hf (fun pc lv hd => zfin_v (r := ()) C hr hd))
theorem dX7_makeResults_0 : decode cX7_makeResults 0 = .ok (.iload_n 1, 1) := by decide +kernel
theorem dX7_makeResults_1 : decode cX7_makeResults 1 = .ok (.istore_n 2, 1) := by decide +kernel
theorem dX7_makeResults_2 : decode cX7_makeResults 2 = .ok (.iload_n 2, 1) := by decide +kernel
theorem dX7_makeResults_3 : decode cX7_makeResults 3 = .ok (.bipush 16, 2) := by decide +kernel
theorem dX7_makeResults_5 : decode cX7_makeResults 5 = .ok (.if_icmp .ge 76, 3) := by decide +kernel
theorem dX7_makeResults_8 : decode cX7_makeResults 8 = .ok (.iconst 0, 1) := by decide +kernel
theorem dX7_makeResults_9 : decode cX7_makeResults 9 = .ok (.istore_n 3, 1) := by decide +kernel
theorem dX7_makeResults_10 : decode cX7_makeResults 10 = .ok (.iconst 0, 1) := by decide +kernel
theorem dX7_makeResults_11 : decode cX7_makeResults 11 = .ok (.istore 4, 2) := by decide +kernel
theorem dX7_makeResults_13 : decode cX7_makeResults 13 = .ok (.iload 4, 2) := by decide +kernel
theorem dX7_makeResults_15 : decode cX7_makeResults 15 = .ok (.aload_n 0, 1) := by decide +kernel
theorem dX7_makeResults_16 : decode cX7_makeResults 16 = .ok (.getfield 9, 3) := by decide +kernel
theorem dX7_makeResults_19 : decode cX7_makeResults 19 = .ok (.iload_n 1, 1) := by decide +kernel
theorem dX7_makeResults_20 : decode cX7_makeResults 20 = .ok (.iaload, 1) := by decide +kernel
theorem dX7_makeResults_21 : decode cX7_makeResults 21 = .ok (.if_icmp .ge 54, 3) := by decide +kernel
theorem dX7_makeResults_24 : decode cX7_makeResults 24 = .ok (.iload 4, 2) := by decide +kernel
theorem dX7_makeResults_26 : decode cX7_makeResults 26 = .ok (.sipush 200, 3) := by decide +kernel
theorem dX7_makeResults_29 : decode cX7_makeResults 29 = .ok (.if_icmp .ge 46, 3) := by decide +kernel
theorem dX7_makeResults_32 : decode cX7_makeResults 32 = .ok (.iload_n 1, 1) := by decide +kernel
theorem dX7_makeResults_33 : decode cX7_makeResults 33 = .ok (.iload 4, 2) := by decide +kernel
theorem dX7_makeResults_35 : decode cX7_makeResults 35 = .ok (.invokestatic 74, 3) := by decide +kernel
theorem dX7_makeResults_38 : decode cX7_makeResults 38 = .ok (.istore 5, 2) := by decide +kernel
theorem dX7_makeResults_40 : decode cX7_makeResults 40 = .ok (.aload_n 0, 1) := by decide +kernel
theorem dX7_makeResults_41 : decode cX7_makeResults 41 = .ok (.getfield 31, 3) := by decide +kernel
theorem dX7_makeResults_44 : decode cX7_makeResults 44 = .ok (.iload 5, 2) := by decide +kernel
theorem dX7_makeResults_46 : decode cX7_makeResults 46 = .ok (.iaload, 1) := by decide +kernel
theorem dX7_makeResults_47 : decode cX7_makeResults 47 = .ok (.iload_n 2, 1) := by decide +kernel
theorem dX7_makeResults_48 : decode cX7_makeResults 48 = .ok (.if_icmp .ne 21, 3) := by decide +kernel
theorem dX7_makeResults_51 : decode cX7_makeResults 51 = .ok (.iload_n 3, 1) := by decide +kernel
theorem dX7_makeResults_52 : decode cX7_makeResults 52 = .ok (.aload_n 0, 1) := by decide +kernel
theorem dX7_makeResults_53 : decode cX7_makeResults 53 = .ok (.getfield 34, 3) := by decide +kernel
theorem dX7_makeResults_56 : decode cX7_makeResults 56 = .ok (.iload 5, 2) := by decide +kernel
theorem dX7_makeResults_58 : decode cX7_makeResults 58 = .ok (.iaload, 1) := by decide +kernel
theorem dX7_makeResults_59 : decode cX7_makeResults 59 = .ok (.iadd, 1) := by decide +kernel
theorem dX7_makeResults_60 : decode cX7_makeResults 60 = .ok (.istore_n 3, 1) := by decide +kernel
theorem dX7_makeResults_61 : decode cX7_makeResults 61 = .ok (.aload_n 0, 1) := by decide +kernel
theorem dX7_makeResults_62 : decode cX7_makeResults 62 = .ok (.getfield 37, 3) := by decide +kernel
theorem dX7_makeResults_65 : decode cX7_makeResults 65 = .ok (.iload 5, 2) := by decide +kernel
theorem dX7_makeResults_67 : decode cX7_makeResults 67 = .ok (.iload_n 3, 1) := by decide +kernel
theorem dX7_makeResults_68 : decode cX7_makeResults 68 = .ok (.iastore, 1) := by decide +kernel
theorem dX7_makeResults_69 : decode cX7_makeResults 69 = .ok (.iinc 4 1, 3) := by decide +kernel
theorem dX7_makeResults_72 : decode cX7_makeResults 72 = .ok (.goto (-59), 3) := by decide +kernel
theorem dX7_makeResults_75 : decode cX7_makeResults 75 = .ok (.iinc 2 4, 3) := by decide +kernel
theorem dX7_makeResults_78 : decode cX7_makeResults 78 = .ok (.goto (-76), 3) := by decide +kernel
theorem dX7_makeResults_81 : decode cX7_makeResults 81 = .ok (.return_, 1) := by decide +kernel
theorem hyX7_makeResults : yX7_makeResults.cls ≠ "java/lang/invoke/MethodHandle" ∧ yX7_makeResults.cls ≠ "java/lang/invoke/VarHandle" ∧ (parseMethodDescriptor yX7_makeResults.desc).map (fun d => d.parameters.length) = some 1 := ⟨by decide +kernel, by decide +kernel, by decide +kernel⟩
def jX7_makeResults_69_L13 (σ : zS) (x0 : Nat) (x1 : Int32) (x2 : Int32) (x3 : Int32) (x4 : Int32)  : Option ((zS × Int32 × Int32) ⊕ zS) :=
  some (.inl (σ, x3, x4 + 1))
set_option maxRecDepth 100000 in
set_option maxHeartbeats 4000000 in
theorem wjX7_makeResults_69_L13 (C : zC p s m args meth c cX7_makeResults RX7 6 D Ca B En) (hRm : zRm R 1 21 cells slots) (σ : zS) (x0 : Nat) (x1 : Int32) (x2 : Int32) (x3 : Int32) (x4 : Int32)  (y : (zS × Int32 × Int32) ⊕ zS) (hf : jX7_makeResults_69_L13 σ x0 x1 x2 x3 x4  = some y) (hk : (∀ z : (zS × Int32 × Int32), y = .inl z → zW p l e R s m args below meth c cells slots Q D Ca B 6 z.1 N 13 [(0, .ref x0), (1, .int x1), (2, .int x2), (3, .int z.2.1), (4, .int z.2.2)] []) ∧ (∀ z : zS, y = .inr z → zW p l e R s m args below meth c cells slots Q D Ca B 6 z N 75 [(0, .ref x0), (1, .int x1), (2, .int x2)] [])) : zW p l e R s m args below meth c cells slots Q D Ca B 6 σ N 69 [(0, .ref x0), (1, .int x1), (2, .int x2), (3, .int x3), (4, .int x4)] [] := by
  unfold jX7_makeResults_69_L13 at hf
  refine z_iinc (lv2 := [(4, .int (x4 + 1)), (0, .ref x0), (1, .int x1), (2, .int x2), (3, .int x3)]) C (x4 + 1) dX7_makeResults_69 4 rfl rfl (by decide) rfl ?_
  refine z_goto C 13 dX7_makeResults_72 (by decide) ?_
  cases hf
  refine z_sub [1, 2, 3, 4, 0] rfl ?_
  exact hk.1 _ rfl

def sX7_makeResults_13b (x0 : Nat) (x1 : Int32) (x2 : Int32) (σ : zS) (u3 : Int32) (u4 : Int32) : Option ((zS × Int32 × Int32) ⊕ zS) :=
  (zgR 7 2 σ x0).bind fun v1 => (zaI σ v1 x1).bind fun v2 => (if v2 ≤ u4 then some (.inr σ) else (if 200 ≤ u4 then some (.inr σ) else (fX9_numberOf σ x1 u4).bind fun c3 => (zgR 7 8 c3.1 x0).bind fun v4 => (zaI c3.1 v4 c3.2).bind fun v5 => (if v5 = x2 then (zgR 7 9 c3.1 x0).bind fun v6 => (zaI c3.1 v6 c3.2).bind fun v7 => (zgR 7 10 c3.1 x0).bind fun v8 => (zsI c3.1 v8 c3.2 (u3 + v7)).bind fun σ9 => jX7_makeResults_69_L13 σ9 x0 x1 x2 (u3 + v7) u4 else jX7_makeResults_69_L13 c3.1 x0 x1 x2 u3 u4)))
def sX7_makeResults_13 (x0 : Nat) (x1 : Int32) (x2 : Int32) (z : (zS × Int32 × Int32)) : Option ((zS × Int32 × Int32) ⊕ zS) := sX7_makeResults_13b x0 x1 x2 z.1 z.2.1 z.2.2
set_option maxRecDepth 100000 in
set_option maxHeartbeats 4000000 in
theorem wsX7_makeResults_13b (C : zC p s m args meth c cX7_makeResults RX7 6 D Ca B En) (hRm : zRm R 1 21 cells slots) (x0 : Nat) (x1 : Int32) (x2 : Int32) (σ : zS) (u3 : Int32) (u4 : Int32) (y : (zS × Int32 × Int32) ⊕ zS) (hf : sX7_makeResults_13b x0 x1 x2 σ u3 u4 = some y) (hk : (∀ z : (zS × Int32 × Int32), y = .inl z → zW p l e R s m args below meth c cells slots Q D Ca B 6 z.1 N 13 [(0, .ref x0), (1, .int x1), (2, .int x2), (3, .int z.2.1), (4, .int z.2.2)] []) ∧ (∀ z : zS, y = .inr z → zW p l e R s m args below meth c cells slots Q D Ca B 6 z N 75 [(0, .ref x0), (1, .int x1), (2, .int x2)] [])) : zW p l e R s m args below meth c cells slots Q D Ca B 6 σ N 13 [(0, .ref x0), (1, .int x1), (2, .int x2), (3, .int u3), (4, .int u4)] [] := by
  unfold sX7_makeResults_13b at hf
  refine z_iload C dX7_makeResults_13 4 rfl ?_
  refine z_aload_n C dX7_makeResults_15 rfl 0 rfl ?_
  obtain ⟨v1, hv1, hf⟩ := zbind hf
  refine gf_RX7_9 C hv1 dX7_makeResults_16 ?_
  refine z_iload_n C dX7_makeResults_19 rfl 1 rfl ?_
  obtain ⟨v2, hv2, hf⟩ := zbind hf
  refine z_aI C hv2 dX7_makeResults_20 ?_
  refine z_icmp_ge C 75 dX7_makeResults_21 (by decide) (fun q12 => ?_) (fun q12 => ?_)
  · rw [if_pos q12] at hf
    cases hf
    refine z_sub [0, 1, 2] rfl ?_
    exact hk.2 _ rfl
  · rw [if_neg q12] at hf
    refine z_iload C dX7_makeResults_24 4 rfl ?_
    refine z_sipush C 200 dX7_makeResults_26 (by decide) ?_
    refine z_icmp_ge C 75 dX7_makeResults_29 (by decide) (fun q11 => ?_) (fun q11 => ?_)
    · rw [if_pos q11] at hf
      cases hf
      refine z_sub [0, 1, 2] rfl ?_
      exact hk.2 _ rfl
    · rw [if_neg q11] at hf
      refine z_iload_n C dX7_makeResults_32 rfl 1 rfl ?_
      refine z_iload C dX7_makeResults_33 4 rfl ?_
      obtain ⟨c3, hc3, hf⟩ := zbind hf
      refine z_callSNi (host := "BarrierFlow") (As := [.int x1, .int u4]) (F0 := 1) (L0 := 21) C (mX9_numberOf l D Ca B En C.2.2.2.2.2.2.2.1 σ N x1 u4 _ hc3) hRm kw_184 kw_1 (by decide) kw_183 hyX9_numberOf (Nat.le_of_ble_eq_true rfl) (Nat.le_of_ble_eq_true rfl) rfl rfl (Nat.le_of_ble_eq_true rfl) dX7_makeResults_35 ?_
      refine z_istore (lv2 := [(5, .int c3.2), (0, .ref x0), (1, .int x1), (2, .int x2), (3, .int u3), (4, .int u4)]) C dX7_makeResults_38 (by decide) rfl ?_
      refine z_aload_n C dX7_makeResults_40 rfl 1 rfl ?_
      obtain ⟨v4, hv4, hf⟩ := zbind hf
      refine gf_RX7_31 C hv4 dX7_makeResults_41 ?_
      refine z_iload C dX7_makeResults_44 0 rfl ?_
      obtain ⟨v5, hv5, hf⟩ := zbind hf
      refine z_aI C hv5 dX7_makeResults_46 ?_
      refine z_iload_n C dX7_makeResults_47 rfl 3 rfl ?_
      refine z_icmp_ne C 69 dX7_makeResults_48 (by decide) (fun q10 => ?_) (fun q10 => ?_)
      · rw [if_neg q10] at hf
        refine z_sub [1, 2, 3, 4, 5] rfl ?_
        exact wjX7_makeResults_69_L13 C hRm _ _ _ _ _ _  _ hf hk
      · rw [if_pos q10] at hf
        refine z_iload_n C dX7_makeResults_51 rfl 4 rfl ?_
        refine z_aload_n C dX7_makeResults_52 rfl 1 rfl ?_
        obtain ⟨v6, hv6, hf⟩ := zbind hf
        refine gf_RX7_34 C hv6 dX7_makeResults_53 ?_
        refine z_iload C dX7_makeResults_56 0 rfl ?_
        obtain ⟨v7, hv7, hf⟩ := zbind hf
        refine z_aI C hv7 dX7_makeResults_58 ?_
        refine z_iadd C dX7_makeResults_59 ?_
        refine z_istore_n (lv2 := [(3, .int (u3 + v7)), (5, .int c3.2), (0, .ref x0), (1, .int x1), (2, .int x2), (4, .int u4)]) C dX7_makeResults_60 rfl (by decide) rfl ?_
        refine z_aload_n C dX7_makeResults_61 rfl 2 rfl ?_
        obtain ⟨v8, hv8, hf⟩ := zbind hf
        refine gf_RX7_37 C hv8 dX7_makeResults_62 ?_
        refine z_iload C dX7_makeResults_65 1 rfl ?_
        refine z_iload_n C dX7_makeResults_67 rfl 0 rfl ?_
        obtain ⟨σ9, hσ9, hf⟩ := zbind hf
        refine z_sI C hσ9 dX7_makeResults_68 ?_
        refine z_sub [2, 3, 4, 0, 5] rfl ?_
        exact wjX7_makeResults_69_L13 C hRm _ _ _ _ _ _  _ hf hk

theorem wsX7_makeResults_13 (C : zC p s m args meth c cX7_makeResults RX7 6 D Ca B En) (hRm : zRm R 1 21 cells slots) (x0 : Nat) (x1 : Int32) (x2 : Int32) (n : Nat) (z : (zS × Int32 × Int32)) (x : zS) (hf : zloop (sX7_makeResults_13 x0 x1 x2) n z = some x) (hk : (∀ o : zS, x = o → zW p l e R s m args below meth c cells slots Q D Ca B 6 o N 75 [(0, .ref x0), (1, .int x1), (2, .int x2)] [])) : zW p l e R s m args below meth c cells slots Q D Ca B 6 z.1 N 13 [(0, .ref x0), (1, .int x1), (2, .int x2), (3, .int z.2.1), (4, .int z.2.2)] [] := by
  refine zloop_W (P := fun z : (zS × Int32 × Int32) => zW p l e R s m args below meth c cells slots Q D Ca B 6 z.1 N 13 [(0, .ref x0), (1, .int x1), (2, .int x2), (3, .int z.2.1), (4, .int z.2.2)] []) (K := fun x : zS => (∀ o : zS, x = o → zW p l e R s m args below meth c cells slots Q D Ca B 6 o N 75 [(0, .ref x0), (1, .int x1), (2, .int x2)] [])) ?_ n z x hf hk
  intro z y hy h1 h2
  refine wsX7_makeResults_13b C hRm x0 x1 x2 z.1 z.2.1 z.2.2 y hy ⟨fun z2 e => h1 z2 e, fun o e => (h2 _ e) o rfl⟩
def jX7_makeResults_75_L2 (σ : zS) (x0 : Nat) (x1 : Int32) (x2 : Int32)  : Option ((zS × Int32) ⊕ zS) :=
  some (.inl (σ, x2 + 4))
set_option maxRecDepth 100000 in
set_option maxHeartbeats 4000000 in
theorem wjX7_makeResults_75_L2 (C : zC p s m args meth c cX7_makeResults RX7 6 D Ca B En) (hRm : zRm R 1 21 cells slots) (σ : zS) (x0 : Nat) (x1 : Int32) (x2 : Int32)  (y : (zS × Int32) ⊕ zS) (hf : jX7_makeResults_75_L2 σ x0 x1 x2  = some y) (hk : (∀ z : (zS × Int32), y = .inl z → zW p l e R s m args below meth c cells slots Q D Ca B 6 z.1 N 2 [(0, .ref x0), (1, .int x1), (2, .int z.2)] []) ∧ (∀ z : zS, y = .inr z → zW p l e R s m args below meth c cells slots Q D Ca B 6 z N 81 [] [])) : zW p l e R s m args below meth c cells slots Q D Ca B 6 σ N 75 [(0, .ref x0), (1, .int x1), (2, .int x2)] [] := by
  unfold jX7_makeResults_75_L2 at hf
  refine z_iinc (lv2 := [(2, .int (x2 + 4)), (0, .ref x0), (1, .int x1)]) C (x2 + 4) dX7_makeResults_75 2 rfl rfl (by decide) rfl ?_
  refine z_goto C 2 dX7_makeResults_78 (by decide) ?_
  cases hf
  refine z_sub [1, 2, 0] rfl ?_
  exact hk.1 _ rfl

def sX7_makeResults_2b (x0 : Nat) (x1 : Int32) (σ : zS) (u2 : Int32) : Option ((zS × Int32) ⊕ zS) :=
  (if 16 ≤ u2 then some (.inr σ) else (zloop (sX7_makeResults_13 x0 x1 u2) zfuel (σ, 0, 0)).bind fun o13 => jX7_makeResults_75_L2 o13 x0 x1 u2)
def sX7_makeResults_2 (x0 : Nat) (x1 : Int32) (z : (zS × Int32)) : Option ((zS × Int32) ⊕ zS) := sX7_makeResults_2b x0 x1 z.1 z.2
set_option maxRecDepth 100000 in
set_option maxHeartbeats 4000000 in
theorem wsX7_makeResults_2b (C : zC p s m args meth c cX7_makeResults RX7 6 D Ca B En) (hRm : zRm R 1 21 cells slots) (x0 : Nat) (x1 : Int32) (σ : zS) (u2 : Int32) (y : (zS × Int32) ⊕ zS) (hf : sX7_makeResults_2b x0 x1 σ u2 = some y) (hk : (∀ z : (zS × Int32), y = .inl z → zW p l e R s m args below meth c cells slots Q D Ca B 6 z.1 N 2 [(0, .ref x0), (1, .int x1), (2, .int z.2)] []) ∧ (∀ z : zS, y = .inr z → zW p l e R s m args below meth c cells slots Q D Ca B 6 z N 81 [] [])) : zW p l e R s m args below meth c cells slots Q D Ca B 6 σ N 2 [(0, .ref x0), (1, .int x1), (2, .int u2)] [] := by
  unfold sX7_makeResults_2b at hf
  refine z_iload_n C dX7_makeResults_2 rfl 2 rfl ?_
  refine z_bipush C 16 dX7_makeResults_3 (by decide) ?_
  refine z_icmp_ge C 81 dX7_makeResults_5 (by decide) (fun q14 => ?_) (fun q14 => ?_)
  · rw [if_pos q14] at hf
    cases hf
    refine z_sub [] rfl ?_
    exact hk.2 _ rfl
  · rw [if_neg q14] at hf
    refine z_iconst C 0 dX7_makeResults_8 (by decide) ?_
    refine z_istore_n (lv2 := [(3, .int 0), (0, .ref x0), (1, .int x1), (2, .int u2)]) C dX7_makeResults_9 rfl (by decide) rfl ?_
    refine z_iconst C 0 dX7_makeResults_10 (by decide) ?_
    refine z_istore (lv2 := [(4, .int 0), (3, .int 0), (0, .ref x0), (1, .int x1), (2, .int u2)]) C dX7_makeResults_11 (by decide) rfl ?_
    obtain ⟨o13, ho13, hf⟩ := zbind hf
    refine z_sub [2, 3, 4, 1, 0] rfl ?_
    refine wsX7_makeResults_13 C hRm _ _ _ zfuel (σ, 0, 0) o13 ho13 ?_
    intro z9 e9
    subst e9
    refine z_sub [0, 1, 2] rfl ?_
    exact wjX7_makeResults_75_L2 C hRm _ _ _ _  _ hf hk

theorem wsX7_makeResults_2 (C : zC p s m args meth c cX7_makeResults RX7 6 D Ca B En) (hRm : zRm R 1 21 cells slots) (x0 : Nat) (x1 : Int32) (n : Nat) (z : (zS × Int32)) (x : zS) (hf : zloop (sX7_makeResults_2 x0 x1) n z = some x) (hk : (∀ o : zS, x = o → zW p l e R s m args below meth c cells slots Q D Ca B 6 o N 81 [] [])) : zW p l e R s m args below meth c cells slots Q D Ca B 6 z.1 N 2 [(0, .ref x0), (1, .int x1), (2, .int z.2)] [] := by
  refine zloop_W (P := fun z : (zS × Int32) => zW p l e R s m args below meth c cells slots Q D Ca B 6 z.1 N 2 [(0, .ref x0), (1, .int x1), (2, .int z.2)] []) (K := fun x : zS => (∀ o : zS, x = o → zW p l e R s m args below meth c cells slots Q D Ca B 6 o N 81 [] [])) ?_ n z x hf hk
  intro z y hy h1 h2
  refine wsX7_makeResults_2b C hRm x0 x1 z.1 z.2 y hy ⟨fun z2 e => h1 z2 e, fun o e => (h2 _ e) o rfl⟩
def fX7_makeResults (σ : zS) (x0 : Nat) (x1 : Int32) : Option zS :=
  (zloop (sX7_makeResults_2 x0 x1) zfuel (σ, x1)).bind fun o15 => some o15
set_option maxRecDepth 100000 in
set_option maxHeartbeats 4000000 in
theorem wfX7_makeResults (C : zC p s m args meth c cX7_makeResults RX7 6 D Ca B En) (hRm : zRm R 1 21 cells slots) (σ : zS) (x0 : Nat) (x1 : Int32) (τ : zS) (hf : fX7_makeResults σ x0 x1 = some τ) (hq : ∀ (pc : Nat) (lv : List (Nat × Value)), decode cX7_makeResults pc = .ok (.return_, 1) → zW p l e R s m args below meth c cells slots Q D Ca B 6 τ N pc lv []) : zW p l e R s m args below meth c cells slots Q D Ca B 6 σ N 0 [(0, .ref x0), (1, .int x1)] [] := by
  unfold fX7_makeResults at hf
  refine z_iload_n C dX7_makeResults_0 rfl 1 rfl ?_
  refine z_istore_n (lv2 := [(2, .int x1), (0, .ref x0), (1, .int x1)]) C dX7_makeResults_1 rfl (by decide) rfl ?_
  obtain ⟨o15, ho15, hf⟩ := zbind hf
  refine z_sub [1, 2, 0] rfl ?_
  refine wsX7_makeResults_2 C hRm _ _ zfuel (σ, x1) o15 ho15 ?_
  intro z9 e9
  subst e9
  cases hf
  exact hq _ _ dX7_makeResults_81

theorem mX7_makeResults (l : Launch) (D : va_G) (Ca : Nat → ClassId) (B : Nat) (En : State → Prop) (hE : zEk B En) (σ : zS) (N : Nat) (x0 : Nat) (x1 : Int32) (X : zS) (hf : fX7_makeResults σ x0 x1 = some X) : zMv l D Ca B En yX7_makeResults cX7_makeResults 6 (Option.none : Option Jvm.ClassFile.FieldType) 1 21 [.ref x0, .int x1] σ N X () :=
  zMet_v (own := RX7) hE (by decide +kernel) rfl (Nat.le_of_ble_eq_true rfl) (fun p e s m args below meth c C hr hRm => wfX7_makeResults C hRm σ x0 x1 X hf (fun pc lv hd => zfin_v (r := ()) C hr hd))
theorem dX6_forget_0 : decode cX6_forget 0 = .ok (.aload_n 0, 1) := by decide +kernel
theorem dX6_forget_1 : decode cX6_forget 1 = .ok (.iconst 0, 1) := by decide +kernel
theorem dX6_forget_2 : decode cX6_forget 2 = .ok (.putfield 20, 3) := by decide +kernel
theorem dX6_forget_5 : decode cX6_forget 5 = .ok (.return_, 1) := by decide +kernel
theorem hyX6_forget : yX6_forget.cls ≠ "java/lang/invoke/MethodHandle" ∧ yX6_forget.cls ≠ "java/lang/invoke/VarHandle" ∧ (parseMethodDescriptor yX6_forget.desc).map (fun d => d.parameters.length) = some 0 := ⟨by decide +kernel, by decide +kernel, by decide +kernel⟩
def fX6_forget (σ : zS) (x0 : Nat) : Option zS :=
  (zpI 6 0 σ x0 0).bind fun σ1 => some σ1
set_option maxRecDepth 100000 in
set_option maxHeartbeats 4000000 in
theorem wfX6_forget (C : zC p s m args meth c cX6_forget RX6 1 D Ca B En) (hRm : zRm R 0 0 cells slots) (σ : zS) (x0 : Nat) (τ : zS) (hf : fX6_forget σ x0 = some τ) (hq : ∀ (pc : Nat) (lv : List (Nat × Value)), decode cX6_forget pc = .ok (.return_, 1) → zW p l e R s m args below meth c cells slots Q D Ca B 1 τ N pc lv []) : zW p l e R s m args below meth c cells slots Q D Ca B 1 σ N 0 [(0, .ref x0)] [] := by
  unfold fX6_forget at hf
  refine z_aload_n C dX6_forget_0 rfl 0 rfl ?_
  refine z_iconst C 0 dX6_forget_1 (by decide) ?_
  obtain ⟨σ1, hσ1, hf⟩ := zbind hf
  refine gp_RX6_20 C hσ1 dX6_forget_2 ?_
  cases hf
  exact hq _ _ dX6_forget_5

theorem mX6_forget (l : Launch) (D : va_G) (Ca : Nat → ClassId) (B : Nat) (En : State → Prop) (hE : zEk B En) (σ : zS) (N : Nat) (x0 : Nat) (X : zS) (hf : fX6_forget σ x0 = some X) : zMv l D Ca B En yX6_forget cX6_forget 1 (Option.none : Option Jvm.ClassFile.FieldType) 0 0 [.ref x0] σ N X () :=
  zMet_v (own := RX6) hE (by decide +kernel) rfl (Nat.le_of_ble_eq_true rfl) (fun p e s m args below meth c C hr hRm => wfX6_forget C hRm σ x0 X hf (fun pc lv hd => zfin_v (r := ()) C hr hd))
theorem dX6_remember_0 : decode cX6_remember 0 = .ok (.aload_n 0, 1) := by decide +kernel
theorem dX6_remember_1 : decode cX6_remember 1 = .ok (.aload_n 0, 1) := by decide +kernel
theorem dX6_remember_2 : decode cX6_remember 2 = .ok (.getfield 24, 3) := by decide +kernel
theorem dX6_remember_5 : decode cX6_remember 5 = .ok (.iconst 1, 1) := by decide +kernel
theorem dX6_remember_6 : decode cX6_remember 6 = .ok (.iadd, 1) := by decide +kernel
theorem dX6_remember_7 : decode cX6_remember 7 = .ok (.bipush 6, 2) := by decide +kernel
theorem dX6_remember_9 : decode cX6_remember 9 = .ok (.if_icmp .ge 12, 3) := by decide +kernel
theorem dX6_remember_12 : decode cX6_remember 12 = .ok (.aload_n 0, 1) := by decide +kernel
theorem dX6_remember_13 : decode cX6_remember 13 = .ok (.getfield 24, 3) := by decide +kernel
theorem dX6_remember_16 : decode cX6_remember 16 = .ok (.iconst 1, 1) := by decide +kernel
theorem dX6_remember_17 : decode cX6_remember 17 = .ok (.iadd, 1) := by decide +kernel
theorem dX6_remember_18 : decode cX6_remember 18 = .ok (.goto 4, 3) := by decide +kernel
theorem dX6_remember_21 : decode cX6_remember 21 = .ok (.iconst 0, 1) := by decide +kernel
theorem dX6_remember_22 : decode cX6_remember 22 = .ok (.putfield 24, 3) := by decide +kernel
theorem dX6_remember_25 : decode cX6_remember 25 = .ok (.aload_n 0, 1) := by decide +kernel
theorem dX6_remember_26 : decode cX6_remember 26 = .ok (.aload_n 0, 1) := by decide +kernel
theorem dX6_remember_27 : decode cX6_remember 27 = .ok (.getfield 20, 3) := by decide +kernel
theorem dX6_remember_30 : decode cX6_remember 30 = .ok (.iconst 1, 1) := by decide +kernel
theorem dX6_remember_31 : decode cX6_remember 31 = .ok (.iadd, 1) := by decide +kernel
theorem dX6_remember_32 : decode cX6_remember 32 = .ok (.bipush 6, 2) := by decide +kernel
theorem dX6_remember_34 : decode cX6_remember 34 = .ok (.invokestatic 27, 3) := by decide +kernel
theorem dX6_remember_37 : decode cX6_remember 37 = .ok (.putfield 20, 3) := by decide +kernel
theorem dX6_remember_40 : decode cX6_remember 40 = .ok (.aload_n 0, 1) := by decide +kernel
theorem dX6_remember_41 : decode cX6_remember 41 = .ok (.getfield 11, 3) := by decide +kernel
theorem dX6_remember_44 : decode cX6_remember 44 = .ok (.aload_n 0, 1) := by decide +kernel
theorem dX6_remember_45 : decode cX6_remember 45 = .ok (.getfield 24, 3) := by decide +kernel
theorem dX6_remember_48 : decode cX6_remember 48 = .ok (.aaload, 1) := by decide +kernel
theorem dX6_remember_49 : decode cX6_remember 49 = .ok (.astore_n 2, 1) := by decide +kernel
theorem dX6_remember_50 : decode cX6_remember 50 = .ok (.aload_n 2, 1) := by decide +kernel
theorem dX6_remember_51 : decode cX6_remember 51 = .ok (.ifnull 8, 3) := by decide +kernel
theorem dX6_remember_54 : decode cX6_remember 54 = .ok (.aload_n 2, 1) := by decide +kernel
theorem dX6_remember_55 : decode cX6_remember 55 = .ok (.aload_n 1, 1) := by decide +kernel
theorem dX6_remember_56 : decode cX6_remember 56 = .ok (.invokevirtual 33, 3) := by decide +kernel
theorem dX6_remember_59 : decode cX6_remember 59 = .ok (.return_, 1) := by decide +kernel
theorem hyX6_remember : yX6_remember.cls ≠ "java/lang/invoke/MethodHandle" ∧ yX6_remember.cls ≠ "java/lang/invoke/VarHandle" ∧ (parseMethodDescriptor yX6_remember.desc).map (fun d => d.parameters.length) = some 1 := ⟨by decide +kernel, by decide +kernel, by decide +kernel⟩
def jX6_remember_22 (σ : zS) (x0 : Nat) (x1 : Nat) (y0 : Int32) (y1 : Nat) : Option zS :=
  (zpI 6 1 σ y1 y0).bind fun σ2 => (zgI 6 0 σ2 x0).bind fun v3 => (zpI 6 0 σ2 x0 (if 6 < (v3 + 1) then 6 else (v3 + 1))).bind fun σ4 => (zgR 6 2 σ4 x0).bind fun v5 => (zgI 6 1 σ4 x0).bind fun v6 => (zaR σ4 v5 v6).bind fun v7 => (match v7 with | none => some σ4 | some a8 => (zck 1 σ4 a8 (fX1_copyFrom σ4 a8 x1)).bind fun c9 => some c9)
set_option maxRecDepth 100000 in
set_option maxHeartbeats 4000000 in
theorem wjX6_remember_22 (C : zC p s m args meth c cX6_remember RX6 3 D Ca B En) (hRm : zRm R 5 148 cells slots) (σ : zS) (x0 : Nat) (x1 : Nat) (y0 : Int32) (y1 : Nat) (τ : zS) (hf : jX6_remember_22 σ x0 x1 y0 y1 = some τ) (hq : ∀ (pc : Nat) (lv : List (Nat × Value)), decode cX6_remember pc = .ok (.return_, 1) → zW p l e R s m args below meth c cells slots Q D Ca B 3 τ N pc lv []) : zW p l e R s m args below meth c cells slots Q D Ca B 3 σ N 22 [(0, .ref x0), (1, .ref x1)] [.int y0, .ref y1] := by
  unfold jX6_remember_22 at hf
  obtain ⟨σ2, hσ2, hf⟩ := zbind hf
  refine gp_RX6_24 C hσ2 dX6_remember_22 ?_
  refine z_aload_n C dX6_remember_25 rfl 0 rfl ?_
  refine z_aload_n C dX6_remember_26 rfl 0 rfl ?_
  obtain ⟨v3, hv3, hf⟩ := zbind hf
  refine gf_RX6_20 C hv3 dX6_remember_27 ?_
  refine z_iconst C 1 dX6_remember_30 (by decide) ?_
  refine z_iadd C dX6_remember_31 ?_
  refine z_bipush C 6 dX6_remember_32 (by decide) ?_
  refine z_mmin (FR := 5) (LR := 148) C hRm (Nat.le_of_ble_eq_true rfl) (Nat.le_of_ble_eq_true rfl) kw_696 kw_301 kw_11 kw_302 (Nat.le_of_ble_eq_true rfl) dX6_remember_34 ?_
  obtain ⟨σ4, hσ4, hf⟩ := zbind hf
  refine gp_RX6_20 C hσ4 dX6_remember_37 ?_
  refine z_aload_n C dX6_remember_40 rfl 0 rfl ?_
  obtain ⟨v5, hv5, hf⟩ := zbind hf
  refine gf_RX6_11 C hv5 dX6_remember_41 ?_
  refine z_aload_n C dX6_remember_44 rfl 0 rfl ?_
  obtain ⟨v6, hv6, hf⟩ := zbind hf
  refine gf_RX6_24 C hv6 dX6_remember_45 ?_
  obtain ⟨v7, hv7, hf⟩ := zbind hf
  refine z_aR C hv7 dX6_remember_48 ?_
  cases v7 with
  | none =>
    dsimp only at hf
    refine z_astore_nN (lv2 := [(2, .null), (0, .ref x0), (1, .ref x1)]) C dX6_remember_49 rfl (by decide) rfl ?_
    refine z_aload_nN C dX6_remember_50 rfl 0 rfl ?_
    refine z_ifnullN C 59 dX6_remember_51 (by decide) ?_
    cases hf
    exact hq _ _ dX6_remember_59
  | some a8 =>
    dsimp only at hf
    refine z_astore_n (lv2 := [(2, .ref a8), (0, .ref x0), (1, .ref x1)]) C dX6_remember_49 rfl (by decide) rfl ?_
    refine z_aload_n C dX6_remember_50 rfl 0 rfl ?_
    refine z_ifnull C dX6_remember_51 ?_
    refine z_aload_n C dX6_remember_54 rfl 0 rfl ?_
    refine z_aload_n C dX6_remember_55 rfl 2 rfl ?_
    obtain ⟨c9, hc9, hf⟩ := zbind hf
    obtain ⟨kc9, hc9⟩ := zck_ok hc9
    refine z_callVv (As := [.ref x1]) (F0 := 5) (L0 := 148) C (mX1_copyFrom l D Ca B En C.2.2.2.2.2.2.2.1 σ4 N a8 x1 _ hc9) hRm kc9 rfl kw_700 kw_8 kw_697 kw_698 kw_699 hyX1_copyFrom (Nat.le_of_ble_eq_true rfl) (Nat.le_of_ble_eq_true rfl) rfl rfl (Nat.le_of_ble_eq_true rfl) dX6_remember_56 ?_
    cases hf
    exact hq _ _ dX6_remember_59

def fX6_remember (σ : zS) (x0 : Nat) (x1 : Nat) : Option zS :=
  (zgI 6 1 σ x0).bind fun v1 => (if 6 ≤ (v1 + 1) then jX6_remember_22 σ x0 x1 0 x0 else (zgI 6 1 σ x0).bind fun v10 => jX6_remember_22 σ x0 x1 (v10 + 1) x0)
set_option maxRecDepth 100000 in
set_option maxHeartbeats 4000000 in
theorem wfX6_remember (C : zC p s m args meth c cX6_remember RX6 3 D Ca B En) (hRm : zRm R 5 148 cells slots) (σ : zS) (x0 : Nat) (x1 : Nat) (τ : zS) (hf : fX6_remember σ x0 x1 = some τ) (hq : ∀ (pc : Nat) (lv : List (Nat × Value)), decode cX6_remember pc = .ok (.return_, 1) → zW p l e R s m args below meth c cells slots Q D Ca B 3 τ N pc lv []) : zW p l e R s m args below meth c cells slots Q D Ca B 3 σ N 0 [(0, .ref x0), (1, .ref x1)] [] := by
  unfold fX6_remember at hf
  refine z_aload_n C dX6_remember_0 rfl 0 rfl ?_
  refine z_aload_n C dX6_remember_1 rfl 0 rfl ?_
  obtain ⟨v1, hv1, hf⟩ := zbind hf
  refine gf_RX6_24 C hv1 dX6_remember_2 ?_
  refine z_iconst C 1 dX6_remember_5 (by decide) ?_
  refine z_iadd C dX6_remember_6 ?_
  refine z_bipush C 6 dX6_remember_7 (by decide) ?_
  refine z_icmp_ge C 21 dX6_remember_9 (by decide) (fun q11 => ?_) (fun q11 => ?_)
  · rw [if_pos q11] at hf
    refine z_iconst C 0 dX6_remember_21 (by decide) ?_
    refine z_sub [0, 1] rfl ?_
    exact wjX6_remember_22 C hRm _ _ _ _ _ _ hf hq
  · rw [if_neg q11] at hf
    refine z_aload_n C dX6_remember_12 rfl 0 rfl ?_
    obtain ⟨v10, hv10, hf⟩ := zbind hf
    refine gf_RX6_24 C hv10 dX6_remember_13 ?_
    refine z_iconst C 1 dX6_remember_16 (by decide) ?_
    refine z_iadd C dX6_remember_17 ?_
    refine z_goto C 22 dX6_remember_18 (by decide) ?_
    refine z_sub [0, 1] rfl ?_
    exact wjX6_remember_22 C hRm _ _ _ _ _ _ hf hq

theorem mX6_remember (l : Launch) (D : va_G) (Ca : Nat → ClassId) (B : Nat) (En : State → Prop) (hE : zEk B En) (σ : zS) (N : Nat) (x0 : Nat) (x1 : Nat) (X : zS) (hf : fX6_remember σ x0 x1 = some X) : zMv l D Ca B En yX6_remember cX6_remember 3 (Option.none : Option Jvm.ClassFile.FieldType) 5 148 [.ref x0, .ref x1] σ N X () :=
  zMet_v (own := RX6) hE (by decide +kernel) rfl (Nat.le_of_ble_eq_true rfl) (fun p e s m args below meth c C hr hRm => wfX6_remember C hRm σ x0 x1 X hf (fun pc lv hd => zfin_v (r := ()) C hr hd))
theorem dX6_giveBack_0 : decode cX6_giveBack 0 = .ok (.aload_n 0, 1) := by decide +kernel
theorem dX6_giveBack_1 : decode cX6_giveBack 1 = .ok (.getfield 11, 3) := by decide +kernel
theorem dX6_giveBack_4 : decode cX6_giveBack 4 = .ok (.aload_n 0, 1) := by decide +kernel
theorem dX6_giveBack_5 : decode cX6_giveBack 5 = .ok (.getfield 24, 3) := by decide +kernel
theorem dX6_giveBack_8 : decode cX6_giveBack 8 = .ok (.aaload, 1) := by decide +kernel
theorem dX6_giveBack_9 : decode cX6_giveBack 9 = .ok (.astore_n 2, 1) := by decide +kernel
theorem dX6_giveBack_10 : decode cX6_giveBack 10 = .ok (.aload_n 0, 1) := by decide +kernel
theorem dX6_giveBack_11 : decode cX6_giveBack 11 = .ok (.getfield 20, 3) := by decide +kernel
theorem dX6_giveBack_14 : decode cX6_giveBack 14 = .ok (.ifCond .eq 7, 3) := by decide +kernel
theorem dX6_giveBack_17 : decode cX6_giveBack 17 = .ok (.aload_n 2, 1) := by decide +kernel
theorem dX6_giveBack_18 : decode cX6_giveBack 18 = .ok (.ifnonnull 4, 3) := by decide +kernel
theorem dX6_giveBack_21 : decode cX6_giveBack 21 = .ok (.return_, 1) := by decide +kernel
theorem dX6_giveBack_22 : decode cX6_giveBack 22 = .ok (.aload_n 1, 1) := by decide +kernel
theorem dX6_giveBack_23 : decode cX6_giveBack 23 = .ok (.aload_n 2, 1) := by decide +kernel
theorem dX6_giveBack_24 : decode cX6_giveBack 24 = .ok (.invokevirtual 33, 3) := by decide +kernel
theorem dX6_giveBack_27 : decode cX6_giveBack 27 = .ok (.aload_n 0, 1) := by decide +kernel
theorem dX6_giveBack_28 : decode cX6_giveBack 28 = .ok (.aload_n 0, 1) := by decide +kernel
theorem dX6_giveBack_29 : decode cX6_giveBack 29 = .ok (.getfield 24, 3) := by decide +kernel
theorem dX6_giveBack_32 : decode cX6_giveBack 32 = .ok (.ifCond .le 12, 3) := by decide +kernel
theorem dX6_giveBack_35 : decode cX6_giveBack 35 = .ok (.aload_n 0, 1) := by decide +kernel
theorem dX6_giveBack_36 : decode cX6_giveBack 36 = .ok (.getfield 24, 3) := by decide +kernel
theorem dX6_giveBack_39 : decode cX6_giveBack 39 = .ok (.iconst 1, 1) := by decide +kernel
theorem dX6_giveBack_40 : decode cX6_giveBack 40 = .ok (.isub, 1) := by decide +kernel
theorem dX6_giveBack_41 : decode cX6_giveBack 41 = .ok (.goto 4, 3) := by decide +kernel
theorem dX6_giveBack_44 : decode cX6_giveBack 44 = .ok (.iconst 5, 1) := by decide +kernel
theorem dX6_giveBack_45 : decode cX6_giveBack 45 = .ok (.putfield 24, 3) := by decide +kernel
theorem dX6_giveBack_48 : decode cX6_giveBack 48 = .ok (.aload_n 0, 1) := by decide +kernel
theorem dX6_giveBack_49 : decode cX6_giveBack 49 = .ok (.dup, 1) := by decide +kernel
theorem dX6_giveBack_50 : decode cX6_giveBack 50 = .ok (.getfield 20, 3) := by decide +kernel
theorem dX6_giveBack_53 : decode cX6_giveBack 53 = .ok (.iconst 1, 1) := by decide +kernel
theorem dX6_giveBack_54 : decode cX6_giveBack 54 = .ok (.isub, 1) := by decide +kernel
theorem dX6_giveBack_55 : decode cX6_giveBack 55 = .ok (.putfield 20, 3) := by decide +kernel
theorem dX6_giveBack_58 : decode cX6_giveBack 58 = .ok (.return_, 1) := by decide +kernel
theorem hyX6_giveBack : yX6_giveBack.cls ≠ "java/lang/invoke/MethodHandle" ∧ yX6_giveBack.cls ≠ "java/lang/invoke/VarHandle" ∧ (parseMethodDescriptor yX6_giveBack.desc).map (fun d => d.parameters.length) = some 1 := ⟨by decide +kernel, by decide +kernel, by decide +kernel⟩
def jX6_giveBack_45 (σ : zS) (x0 : Nat) (y0 : Int32) (y1 : Nat) : Option zS :=
  (zpI 6 1 σ y1 y0).bind fun σ10 => (zgI 6 0 σ10 x0).bind fun v11 => (zpI 6 0 σ10 x0 (v11 - 1)).bind fun σ12 => some σ12
set_option maxRecDepth 100000 in
set_option maxHeartbeats 4000000 in
theorem wjX6_giveBack_45 (C : zC p s m args meth c cX6_giveBack RX6 3 D Ca B En) (hRm : zRm R 5 148 cells slots) (σ : zS) (x0 : Nat) (y0 : Int32) (y1 : Nat) (τ : zS) (hf : jX6_giveBack_45 σ x0 y0 y1 = some τ) (hq : ∀ (pc : Nat) (lv : List (Nat × Value)), decode cX6_giveBack pc = .ok (.return_, 1) → zW p l e R s m args below meth c cells slots Q D Ca B 3 τ N pc lv []) : zW p l e R s m args below meth c cells slots Q D Ca B 3 σ N 45 [(0, .ref x0)] [.int y0, .ref y1] := by
  unfold jX6_giveBack_45 at hf
  obtain ⟨σ10, hσ10, hf⟩ := zbind hf
  refine gp_RX6_24 C hσ10 dX6_giveBack_45 ?_
  refine z_aload_n C dX6_giveBack_48 rfl 0 rfl ?_
  refine z_dup C dX6_giveBack_49 rfl ?_
  obtain ⟨v11, hv11, hf⟩ := zbind hf
  refine gf_RX6_20 C hv11 dX6_giveBack_50 ?_
  refine z_iconst C 1 dX6_giveBack_53 (by decide) ?_
  refine z_isub C dX6_giveBack_54 ?_
  obtain ⟨σ12, hσ12, hf⟩ := zbind hf
  refine gp_RX6_20 C hσ12 dX6_giveBack_55 ?_
  cases hf
  exact hq _ _ dX6_giveBack_58

def fX6_giveBack (σ : zS) (x0 : Nat) (x1 : Nat) : Option zS :=
  (zgR 6 2 σ x0).bind fun v1 => (zgI 6 1 σ x0).bind fun v2 => (zaR σ v1 v2).bind fun v3 => (match v3 with | none => (zgI 6 0 σ x0).bind fun v5 => (if v5 = 0 then some σ else some σ) | some a4 => (zgI 6 0 σ x0).bind fun v7 => (if v7 = 0 then some σ else (zck 1 σ x1 (fX1_copyFrom σ x1 a4)).bind fun c8 => (zgI 6 1 c8 x0).bind fun v9 => (if v9 ≤ 0 then jX6_giveBack_45 c8 x0 5 x0 else (zgI 6 1 c8 x0).bind fun v13 => jX6_giveBack_45 c8 x0 (v13 - 1) x0)))
set_option maxRecDepth 100000 in
set_option maxHeartbeats 4000000 in
theorem wfX6_giveBack (C : zC p s m args meth c cX6_giveBack RX6 3 D Ca B En) (hRm : zRm R 5 148 cells slots) (σ : zS) (x0 : Nat) (x1 : Nat) (τ : zS) (hf : fX6_giveBack σ x0 x1 = some τ) (hq : ∀ (pc : Nat) (lv : List (Nat × Value)), decode cX6_giveBack pc = .ok (.return_, 1) → zW p l e R s m args below meth c cells slots Q D Ca B 3 τ N pc lv []) : zW p l e R s m args below meth c cells slots Q D Ca B 3 σ N 0 [(0, .ref x0), (1, .ref x1)] [] := by
  unfold fX6_giveBack at hf
  refine z_aload_n C dX6_giveBack_0 rfl 0 rfl ?_
  obtain ⟨v1, hv1, hf⟩ := zbind hf
  refine gf_RX6_11 C hv1 dX6_giveBack_1 ?_
  refine z_aload_n C dX6_giveBack_4 rfl 0 rfl ?_
  obtain ⟨v2, hv2, hf⟩ := zbind hf
  refine gf_RX6_24 C hv2 dX6_giveBack_5 ?_
  obtain ⟨v3, hv3, hf⟩ := zbind hf
  refine z_aR C hv3 dX6_giveBack_8 ?_
  cases v3 with
  | none =>
    dsimp only at hf
    refine z_astore_nN (lv2 := [(2, .null), (0, .ref x0), (1, .ref x1)]) C dX6_giveBack_9 rfl (by decide) rfl ?_
    refine z_aload_n C dX6_giveBack_10 rfl 1 rfl ?_
    obtain ⟨v5, hv5, hf⟩ := zbind hf
    refine gf_RX6_20 C hv5 dX6_giveBack_11 ?_
    refine z_if_eq C 21 dX6_giveBack_14 (by decide) (fun q6 => ?_) (fun q6 => ?_)
    · rw [if_pos q6] at hf
      cases hf
      exact hq _ _ dX6_giveBack_21
    · rw [if_neg q6] at hf
      refine z_aload_nN C dX6_giveBack_17 rfl 0 rfl ?_
      refine z_ifnonnullN C dX6_giveBack_18 ?_
      cases hf
      exact hq _ _ dX6_giveBack_21
  | some a4 =>
    dsimp only at hf
    refine z_astore_n (lv2 := [(2, .ref a4), (0, .ref x0), (1, .ref x1)]) C dX6_giveBack_9 rfl (by decide) rfl ?_
    refine z_aload_n C dX6_giveBack_10 rfl 1 rfl ?_
    obtain ⟨v7, hv7, hf⟩ := zbind hf
    refine gf_RX6_20 C hv7 dX6_giveBack_11 ?_
    refine z_if_eq C 21 dX6_giveBack_14 (by decide) (fun q15 => ?_) (fun q15 => ?_)
    · rw [if_pos q15] at hf
      cases hf
      exact hq _ _ dX6_giveBack_21
    · rw [if_neg q15] at hf
      refine z_aload_n C dX6_giveBack_17 rfl 0 rfl ?_
      refine z_ifnonnull C 22 dX6_giveBack_18 (by decide) ?_
      refine z_aload_n C dX6_giveBack_22 rfl 2 rfl ?_
      refine z_aload_n C dX6_giveBack_23 rfl 0 rfl ?_
      obtain ⟨c8, hc8, hf⟩ := zbind hf
      obtain ⟨kc8, hc8⟩ := zck_ok hc8
      refine z_callVv (As := [.ref a4]) (F0 := 5) (L0 := 148) C (mX1_copyFrom l D Ca B En C.2.2.2.2.2.2.2.1 σ N x1 a4 _ hc8) hRm kc8 rfl kw_700 kw_8 kw_697 kw_698 kw_699 hyX1_copyFrom (Nat.le_of_ble_eq_true rfl) (Nat.le_of_ble_eq_true rfl) rfl rfl (Nat.le_of_ble_eq_true rfl) dX6_giveBack_24 ?_
      refine z_aload_n C dX6_giveBack_27 rfl 1 rfl ?_
      refine z_aload_n C dX6_giveBack_28 rfl 1 rfl ?_
      obtain ⟨v9, hv9, hf⟩ := zbind hf
      refine gf_RX6_24 C hv9 dX6_giveBack_29 ?_
      refine z_if_le C 44 dX6_giveBack_32 (by decide) (fun q14 => ?_) (fun q14 => ?_)
      · rw [if_pos q14] at hf
        refine z_iconst C 5 dX6_giveBack_44 (by decide) ?_
        refine z_sub [1] rfl ?_
        exact wjX6_giveBack_45 C hRm _ _ _ _ _ hf hq
      · rw [if_neg q14] at hf
        refine z_aload_n C dX6_giveBack_35 rfl 1 rfl ?_
        obtain ⟨v13, hv13, hf⟩ := zbind hf
        refine gf_RX6_24 C hv13 dX6_giveBack_36 ?_
        refine z_iconst C 1 dX6_giveBack_39 (by decide) ?_
        refine z_isub C dX6_giveBack_40 ?_
        refine z_goto C 45 dX6_giveBack_41 (by decide) ?_
        refine z_sub [1] rfl ?_
        exact wjX6_giveBack_45 C hRm _ _ _ _ _ hf hq

theorem mX6_giveBack (l : Launch) (D : va_G) (Ca : Nat → ClassId) (B : Nat) (En : State → Prop) (hE : zEk B En) (σ : zS) (N : Nat) (x0 : Nat) (x1 : Nat) (X : zS) (hf : fX6_giveBack σ x0 x1 = some X) : zMv l D Ca B En yX6_giveBack cX6_giveBack 3 (Option.none : Option Jvm.ClassFile.FieldType) 5 148 [.ref x0, .ref x1] σ N X () :=
  zMet_v (own := RX6) hE (by decide +kernel) rfl (Nat.le_of_ble_eq_true rfl) (fun p e s m args below meth c C hr hRm => wfX6_giveBack C hRm σ x0 x1 X hf (fun pc lv hd => zfin_v (r := ()) C hr hd))
theorem dX7_resultOf_0 : decode cX7_resultOf 0 = .ok (.iload_n 1, 1) := by decide +kernel
theorem dX7_resultOf_1 : decode cX7_resultOf 1 = .ok (.ifCond .lt 19, 3) := by decide +kernel
theorem dX7_resultOf_4 : decode cX7_resultOf 4 = .ok (.iload_n 1, 1) := by decide +kernel
theorem dX7_resultOf_5 : decode cX7_resultOf 5 = .ok (.sipush 800, 3) := by decide +kernel
theorem dX7_resultOf_8 : decode cX7_resultOf 8 = .ok (.if_icmp .ge 12, 3) := by decide +kernel
theorem dX7_resultOf_11 : decode cX7_resultOf 11 = .ok (.aload_n 0, 1) := by decide +kernel
theorem dX7_resultOf_12 : decode cX7_resultOf 12 = .ok (.getfield 37, 3) := by decide +kernel
theorem dX7_resultOf_15 : decode cX7_resultOf 15 = .ok (.iload_n 1, 1) := by decide +kernel
theorem dX7_resultOf_16 : decode cX7_resultOf 16 = .ok (.iaload, 1) := by decide +kernel
theorem dX7_resultOf_17 : decode cX7_resultOf 17 = .ok (.goto 4, 3) := by decide +kernel
theorem dX7_resultOf_20 : decode cX7_resultOf 20 = .ok (.iconst 0, 1) := by decide +kernel
theorem dX7_resultOf_21 : decode cX7_resultOf 21 = .ok (.ireturn, 1) := by decide +kernel
theorem hyX7_resultOf : yX7_resultOf.cls ≠ "java/lang/invoke/MethodHandle" ∧ yX7_resultOf.cls ≠ "java/lang/invoke/VarHandle" ∧ (parseMethodDescriptor yX7_resultOf.desc).map (fun d => d.parameters.length) = some 1 := ⟨by decide +kernel, by decide +kernel, by decide +kernel⟩
def fX7_resultOf (σ : zS) (x0 : Nat) (x1 : Int32) : Option (zS × Int32) :=
  (if x1 < 0 then some (σ, 0) else (if 800 ≤ x1 then some (σ, 0) else (zgR 7 10 σ x0).bind fun v1 => (zaI σ v1 x1).bind fun v2 => some (σ, v2)))
set_option maxRecDepth 100000 in
set_option maxHeartbeats 4000000 in
theorem wfX7_resultOf (C : zC p s m args meth c cX7_resultOf RX7 2 D Ca B En) (hRm : zRm R 0 0 cells slots) (σ : zS) (x0 : Nat) (x1 : Int32) (τ : zS) (r : Int32) (hf : fX7_resultOf σ x0 x1 = some (τ, r)) (hq : ∀ (pc : Nat) (lv : List (Nat × Value)), decode cX7_resultOf pc = .ok (.ireturn, 1) → zW p l e R s m args below meth c cells slots Q D Ca B 2 τ N pc lv [.int r]) : zW p l e R s m args below meth c cells slots Q D Ca B 2 σ N 0 [(0, .ref x0), (1, .int x1)] [] := by
  unfold fX7_resultOf at hf
  refine z_iload_n C dX7_resultOf_0 rfl 1 rfl ?_
  refine z_if_lt C 20 dX7_resultOf_1 (by decide) (fun q4 => ?_) (fun q4 => ?_)
  · rw [if_pos q4] at hf
    refine z_iconst C 0 dX7_resultOf_20 (by decide) ?_
    cases hf
    exact hq _ _ dX7_resultOf_21
  · rw [if_neg q4] at hf
    refine z_iload_n C dX7_resultOf_4 rfl 1 rfl ?_
    refine z_sipush C 800 dX7_resultOf_5 (by decide) ?_
    refine z_icmp_ge C 20 dX7_resultOf_8 (by decide) (fun q3 => ?_) (fun q3 => ?_)
    · rw [if_pos q3] at hf
      refine z_iconst C 0 dX7_resultOf_20 (by decide) ?_
      cases hf
      exact hq _ _ dX7_resultOf_21
    · rw [if_neg q3] at hf
      refine z_aload_n C dX7_resultOf_11 rfl 0 rfl ?_
      obtain ⟨v1, hv1, hf⟩ := zbind hf
      refine gf_RX7_37 C hv1 dX7_resultOf_12 ?_
      refine z_iload_n C dX7_resultOf_15 rfl 1 rfl ?_
      obtain ⟨v2, hv2, hf⟩ := zbind hf
      refine z_aI C hv2 dX7_resultOf_16 ?_
      refine z_goto C 21 dX7_resultOf_17 (by decide) ?_
      cases hf
      exact hq _ _ dX7_resultOf_21

theorem mX7_resultOf (l : Launch) (D : va_G) (Ca : Nat → ClassId) (B : Nat) (En : State → Prop) (hE : zEk B En) (σ : zS) (N : Nat) (x0 : Nat) (x1 : Int32) (X : zS × Int32) (hf : fX7_resultOf σ x0 x1 = some X) : zMi l D Ca B En yX7_resultOf cX7_resultOf 2 (Option.some Jvm.ClassFile.FieldType.int) 0 0 [.ref x0, .int x1] σ N X.1 X.2 :=
  zMet_i (own := RX7) hE (by decide +kernel) rfl (Nat.le_of_ble_eq_true rfl) (fun p e s m args below meth c C hr hRm => wfX7_resultOf C hRm σ x0 x1 X.1 X.2 hf (fun pc lv hd => zfin_i C hr hd))
end ZM
