/-! Methods: X5_readSetting, X5_readStatement, X7_makeRecords, X7_makeResults, X7_finish, X5_read, X6_forget, X6_remember, X6_giveBack, X7_makePlain, X7_resultOf, X7_resultBehind, X9_feed, X9_truncate, X9_parse, X9_count, X9_groupsOf, X9_atRisk, X9_fail, X9_groupsMoved, X9_wouldTake -/
section ZM
variable {p : Program} {l : Launch} {e : Env} {R : Room} {s : State} {m : MethodId} {args : Array Value} {below : List Frame} {meth : Method} {c : Code} {cells slots : Nat} {Q : State → Prop} {D : va_G} {Ca : Nat → ClassId} {B : Nat} {En : State → Prop} {N : Nat}
theorem dX5_readSetting_0 : decode cX5_readSetting 0 = .ok (.aload_n 1, 1) := by decide +kernel
theorem dX5_readSetting_1 : decode cX5_readSetting 1 = .ok (.getfield 70, 3) := by decide +kernel
theorem dX5_readSetting_4 : decode cX5_readSetting 4 = .ok (.istore_n 2, 1) := by decide +kernel
theorem dX5_readSetting_5 : decode cX5_readSetting 5 = .ok (.iload_n 2, 1) := by decide +kernel
theorem dX5_readSetting_6 : decode cX5_readSetting 6 = .ok (.ifCond .lt 21, 3) := by decide +kernel
theorem dX5_readSetting_9 : decode cX5_readSetting 9 = .ok (.iload_n 2, 1) := by decide +kernel
theorem dX5_readSetting_10 : decode cX5_readSetting 10 = .ok (.iconst 5, 1) := by decide +kernel
theorem dX5_readSetting_11 : decode cX5_readSetting 11 = .ok (.if_icmp .ge 16, 3) := by decide +kernel
theorem dX5_readSetting_14 : decode cX5_readSetting 14 = .ok (.aload_n 0, 1) := by decide +kernel
theorem dX5_readSetting_15 : decode cX5_readSetting 15 = .ok (.getfield 19, 3) := by decide +kernel
theorem dX5_readSetting_18 : decode cX5_readSetting 18 = .ok (.getfield 108, 3) := by decide +kernel
theorem dX5_readSetting_21 : decode cX5_readSetting 21 = .ok (.iload_n 2, 1) := by decide +kernel
theorem dX5_readSetting_22 : decode cX5_readSetting 22 = .ok (.iaload, 1) := by decide +kernel
theorem dX5_readSetting_23 : decode cX5_readSetting 23 = .ok (.iconst (-1), 1) := by decide +kernel
theorem dX5_readSetting_24 : decode cX5_readSetting 24 = .ok (.if_icmp .eq 9, 3) := by decide +kernel
theorem dX5_readSetting_27 : decode cX5_readSetting 27 = .ok (.aload_n 0, 1) := by decide +kernel
theorem dX5_readSetting_28 : decode cX5_readSetting 28 = .ok (.iconst 3, 1) := by decide +kernel
theorem dX5_readSetting_29 : decode cX5_readSetting 29 = .ok (.invokevirtual 47, 3) := by decide +kernel
theorem dX5_readSetting_32 : decode cX5_readSetting 32 = .ok (.ireturn, 1) := by decide +kernel
theorem dX5_readSetting_33 : decode cX5_readSetting 33 = .ok (.aload_n 0, 1) := by decide +kernel
theorem dX5_readSetting_34 : decode cX5_readSetting 34 = .ok (.invokevirtual 34, 3) := by decide +kernel
theorem dX5_readSetting_37 : decode cX5_readSetting 37 = .ok (.aload_n 1, 1) := by decide +kernel
theorem dX5_readSetting_38 : decode cX5_readSetting 38 = .ok (.getstatic 111, 3) := by decide +kernel
theorem dX5_readSetting_41 : decode cX5_readSetting 41 = .ok (.if_acmp .ne 15, 3) := by decide +kernel
theorem dX5_readSetting_44 : decode cX5_readSetting 44 = .ok (.aload_n 0, 1) := by decide +kernel
theorem dX5_readSetting_45 : decode cX5_readSetting 45 = .ok (.getfield 19, 3) := by decide +kernel
theorem dX5_readSetting_48 : decode cX5_readSetting 48 = .ok (.getfield 108, 3) := by decide +kernel
theorem dX5_readSetting_51 : decode cX5_readSetting 51 = .ok (.iload_n 2, 1) := by decide +kernel
theorem dX5_readSetting_52 : decode cX5_readSetting 52 = .ok (.iconst 1, 1) := by decide +kernel
theorem dX5_readSetting_53 : decode cX5_readSetting 53 = .ok (.iastore, 1) := by decide +kernel
theorem dX5_readSetting_54 : decode cX5_readSetting 54 = .ok (.iconst 1, 1) := by decide +kernel
theorem dX5_readSetting_55 : decode cX5_readSetting 55 = .ok (.ireturn, 1) := by decide +kernel
theorem dX5_readSetting_56 : decode cX5_readSetting 56 = .ok (.aload_n 0, 1) := by decide +kernel
theorem dX5_readSetting_57 : decode cX5_readSetting 57 = .ok (.aload_n 1, 1) := by decide +kernel
theorem dX5_readSetting_58 : decode cX5_readSetting 58 = .ok (.invokevirtual 86, 3) := by decide +kernel
theorem dX5_readSetting_61 : decode cX5_readSetting 61 = .ok (.ifCond .ne 5, 3) := by decide +kernel
theorem dX5_readSetting_64 : decode cX5_readSetting 64 = .ok (.iconst 0, 1) := by decide +kernel
theorem dX5_readSetting_65 : decode cX5_readSetting 65 = .ok (.ireturn, 1) := by decide +kernel
theorem dX5_readSetting_66 : decode cX5_readSetting 66 = .ok (.aload_n 0, 1) := by decide +kernel
theorem dX5_readSetting_67 : decode cX5_readSetting 67 = .ok (.getfield 19, 3) := by decide +kernel
theorem dX5_readSetting_70 : decode cX5_readSetting 70 = .ok (.getfield 108, 3) := by decide +kernel
theorem dX5_readSetting_73 : decode cX5_readSetting 73 = .ok (.iload_n 2, 1) := by decide +kernel
theorem dX5_readSetting_74 : decode cX5_readSetting 74 = .ok (.aload_n 0, 1) := by decide +kernel
theorem dX5_readSetting_75 : decode cX5_readSetting 75 = .ok (.getfield 93, 3) := by decide +kernel
theorem dX5_readSetting_78 : decode cX5_readSetting 78 = .ok (.iastore, 1) := by decide +kernel
theorem dX5_readSetting_79 : decode cX5_readSetting 79 = .ok (.iconst 1, 1) := by decide +kernel
theorem dX5_readSetting_80 : decode cX5_readSetting 80 = .ok (.ireturn, 1) := by decide +kernel
theorem hyX5_readSetting : yX5_readSetting.cls ≠ "java/lang/invoke/MethodHandle" ∧ yX5_readSetting.cls ≠ "java/lang/invoke/VarHandle" ∧ (parseMethodDescriptor yX5_readSetting.desc).map (fun d => d.parameters.length) = some 1 := ⟨by decide +kernel, by decide +kernel, by decide +kernel⟩
set_option maxRecDepth 100000 in
set_option maxHeartbeats 4000000 in
theorem wjX5_readSetting_27 (C : zC p s m args meth c cX5_readSetting RX5 3 D Ca B En) (hRm : zRm R 4 85 cells slots) (ev : zEv) (hZ : ∀ U : State, En U → zEnv ev B U) (σ : zS) (x0 : Nat)  (τ : zS) (r : Int32) (hf : jX5_readSetting_27 σ x0  = some (τ, r)) (hq : ∀ (pc : Nat) (lv : List (Nat × Value)), (r = 0 ∨ r = 1) → decode cX5_readSetting pc = .ok (.ireturn, 1) → zW p l e R s m args below meth c cells slots Q D Ca B 3 τ N pc lv [.int r]) : zW p l e R s m args below meth c cells slots Q D Ca B 3 σ N 27 [(0, .ref x0)] [] := by
  unfold jX5_readSetting_27 at hf
  refine z_aload_n C dX5_readSetting_27 rfl 0 rfl ?_
  refine z_iconst C (zi 3) dX5_readSetting_28 (by decide) ?_
  obtain ⟨c2, hc2, hf⟩ := zbind hf
  obtain ⟨kc2, hc2⟩ := zck_ok hc2
  refine z_callVi (As := [.int ((zi 3))]) (F0 := 4) (L0 := 85) C (mX5_refuse l D Ca B En C.2.2.2.2.2.2.2.1 σ N x0 ((zi 3)) _ hc2) hRm kc2 rfl kw_898 kw_3 kw_895 kw_897 kp_25 hyX5_refuse (Nat.le_of_ble_eq_true rfl) (Nat.le_of_ble_eq_true rfl) rfl rfl (Nat.le_of_ble_eq_true rfl) dX5_readSetting_29 ?_
  obtain ⟨e9, b9⟩ := zrZ_ok hf
  cases e9
  exact hq _ _ b9 dX5_readSetting_32

set_option maxRecDepth 100000 in
set_option maxHeartbeats 4000000 in
theorem wfX5_readSetting (C : zC p s m args meth c cX5_readSetting RX5 3 D Ca B En) (hRm : zRm R 4 85 cells slots) (ev : zEv) (hZ : ∀ U : State, En U → zEnv ev B U) (σ : zS) (x0 : Nat) (x1 : Nat) (τ : zS) (r : Int32) (hf : fX5_readSetting σ x0 x1 = some (τ, r)) (hq : ∀ (pc : Nat) (lv : List (Nat × Value)), (r = 0 ∨ r = 1) → decode cX5_readSetting pc = .ok (.ireturn, 1) → zW p l e R s m args below meth c cells slots Q D Ca B 3 τ N pc lv [.int r]) : zW p l e R s m args below meth c cells slots Q D Ca B 3 σ N 0 [(0, .ref x0), (1, .ref (ev.1 x1))] [] := by
  unfold fX5_readSetting at hf
  refine z_aload_n C dX5_readSetting_0 rfl 1 rfl ?_
  obtain ⟨v1, hv1, hf⟩ := zbind hf
  refine z_gWf C ev hZ hv1 (zwF.getD 0 ("", "", "", [])) (by decide) rfl rfl rfl rfl kw_1376 dX5_readSetting_1 ?_
  refine z_istore_n (lv2 := [(2, .int v1), (0, .ref x0), (1, .ref (ev.1 x1))]) C dX5_readSetting_4 rfl (by decide) rfl ?_
  refine z_iload_n C dX5_readSetting_5 rfl 0 rfl ?_
  refine z_if_lt C 27 dX5_readSetting_6 (by decide) (fun q20 => ?_) (fun q20 => ?_)
  · rw [if_pos q20] at hf
    refine z_sub [1] rfl ?_
    exact wjX5_readSetting_27 C hRm ev hZ _ _  _ _ hf hq
  · rw [if_neg q20] at hf
    refine z_iload_n C dX5_readSetting_9 rfl 0 rfl ?_
    refine z_iconst C (zi 5) dX5_readSetting_10 (by decide) ?_
    refine z_icmp_ge C 27 dX5_readSetting_11 (by decide) (fun q19 => ?_) (fun q19 => ?_)
    · rw [if_pos q19] at hf
      refine z_sub [1] rfl ?_
      exact wjX5_readSetting_27 C hRm ev hZ _ _  _ _ hf hq
    · rw [if_neg q19] at hf
      refine z_aload_n C dX5_readSetting_14 rfl 1 rfl ?_
      obtain ⟨v3, hv3, hf⟩ := zbind hf
      refine gf_RX5_19 C hv3 dX5_readSetting_15 ?_
      obtain ⟨v4, hv4, hf⟩ := zbind hf
      refine gf_RX5_108 C hv4 dX5_readSetting_18 ?_
      refine z_iload_n C dX5_readSetting_21 rfl 0 rfl ?_
      obtain ⟨v5, hv5, hf⟩ := zbind hf
      refine z_aI C hv5 dX5_readSetting_22 ?_
      refine z_iconst C (zi (-1)) dX5_readSetting_23 (by decide) ?_
      refine z_icmp_eq C 33 dX5_readSetting_24 (by decide) (fun q18 => ?_) (fun q18 => ?_)
      · rw [if_pos q18] at hf
        refine z_aload_n C dX5_readSetting_33 rfl 1 rfl ?_
        obtain ⟨c6, hc6, hf⟩ := zbind hf
        obtain ⟨kc6, hc6⟩ := zck_ok hc6
        refine z_callVv (As := []) (F0 := 4) (L0 := 85) C (mX5_advance l D Ca B En C.2.2.2.2.2.2.2.1 σ N x0  _ hc6) hRm kc6 rfl kw_864 kw_3 kw_861 kw_863 kp_19 hyX5_advance (Nat.le_of_ble_eq_true rfl) (Nat.le_of_ble_eq_true rfl) rfl rfl (Nat.le_of_ble_eq_true rfl) dX5_readSetting_34 ?_
        refine z_aload_n C dX5_readSetting_37 rfl 2 rfl ?_
        refine z_gsW C ev hZ 8 (by decide) rfl kw_938 dX5_readSetting_38 ?_
        obtain ⟨v7, hv7, hf⟩ := zbind hf
        refine z_acmpW_ne C ev hZ 56 hv7 dX5_readSetting_41 (by decide) (fun q17 => ?_) (fun q17 => ?_)
        · rw [if_neg q17] at hf
          refine z_aload_n C dX5_readSetting_56 rfl 1 rfl ?_
          refine z_aload_n C dX5_readSetting_57 rfl 2 rfl ?_
          obtain ⟨c8, hc8, hf⟩ := zbind hf
          obtain ⟨kc8, hc8⟩ := zck_ok hc8
          refine z_callVi (As := [.ref (ev.1 x1)]) (F0 := 4) (L0 := 85) C (mX5_readNumber l D Ca B En C.2.2.2.2.2.2.2.1 ev hZ c6 N x0 x1 _ hc8) hRm kc8 rfl kw_925 kw_3 kw_922 kw_924 kp_29 hyX5_readNumber (Nat.le_of_ble_eq_true rfl) (Nat.le_of_ble_eq_true rfl) rfl rfl (Nat.le_of_ble_eq_true rfl) dX5_readSetting_58 ?_
          refine z_if_ne C 66 dX5_readSetting_61 (by decide) (fun q13 => ?_) (fun q13 => ?_)
          · rw [if_neg q13] at hf
            refine z_aload_n C dX5_readSetting_66 rfl 1 rfl ?_
            obtain ⟨v9, hv9, hf⟩ := zbind hf
            refine gf_RX5_19 C hv9 dX5_readSetting_67 ?_
            obtain ⟨v10, hv10, hf⟩ := zbind hf
            refine gf_RX5_108 C hv10 dX5_readSetting_70 ?_
            refine z_iload_n C dX5_readSetting_73 rfl 0 rfl ?_
            refine z_aload_n C dX5_readSetting_74 rfl 1 rfl ?_
            obtain ⟨v11, hv11, hf⟩ := zbind hf
            refine gf_RX5_93 C hv11 dX5_readSetting_75 ?_
            obtain ⟨σ12, hσ12, hf⟩ := zbind hf
            refine z_sI C hσ12 dX5_readSetting_78 ?_
            refine z_iconst C (zi 1) dX5_readSetting_79 (by decide) ?_
            obtain ⟨e9, b9⟩ := zrZ_ok hf
            cases e9
            exact hq _ _ b9 dX5_readSetting_80
          · rw [if_pos q13] at hf
            refine z_iconst C (zi 0) dX5_readSetting_64 (by decide) ?_
            obtain ⟨e9, b9⟩ := zrZ_ok hf
            cases e9
            exact hq _ _ b9 dX5_readSetting_65
        · rw [if_pos q17] at hf
          refine z_aload_n C dX5_readSetting_44 rfl 1 rfl ?_
          obtain ⟨v14, hv14, hf⟩ := zbind hf
          refine gf_RX5_19 C hv14 dX5_readSetting_45 ?_
          obtain ⟨v15, hv15, hf⟩ := zbind hf
          refine gf_RX5_108 C hv15 dX5_readSetting_48 ?_
          refine z_iload_n C dX5_readSetting_51 rfl 0 rfl ?_
          refine z_iconst C (zi 1) dX5_readSetting_52 (by decide) ?_
          obtain ⟨σ16, hσ16, hf⟩ := zbind hf
          refine z_sI C hσ16 dX5_readSetting_53 ?_
          refine z_iconst C (zi 1) dX5_readSetting_54 (by decide) ?_
          obtain ⟨e9, b9⟩ := zrZ_ok hf
          cases e9
          exact hq _ _ b9 dX5_readSetting_55
      · rw [if_neg q18] at hf
        refine z_sub [1] rfl ?_
        exact wjX5_readSetting_27 C hRm ev hZ _ _  _ _ hf hq

theorem mX5_readSetting (l : Launch) (D : va_G) (Ca : Nat → ClassId) (B : Nat) (En : State → Prop) (hE : zEk B En) (ev : zEv) (hZ : ∀ U : State, En U → zEnv ev B U) (σ : zS) (N : Nat) (x0 : Nat) (x1 : Nat) (X : zS × Int32) (hf : fX5_readSetting σ x0 x1 = some X) : zMi l D Ca B En yX5_readSetting cX5_readSetting 3 (Option.some Jvm.ClassFile.FieldType.boolean) 4 85 [.ref x0, .ref (ev.1 x1)] σ N X.1 X.2 :=
  zMet_i (own := RX5) hE (by decide +kernel) rfl (Nat.le_of_ble_eq_true rfl) (fun p e s m args below meth c C hr hRm => wfX5_readSetting C hRm ev hZ σ x0 x1 X.1 X.2 hf (fun pc lv hb hd => zfin_z C hb hr hd))
theorem dX5_readStatement_0 : decode cX5_readStatement 0 = .ok (.aload_n 0, 1) := by decide +kernel
theorem dX5_readStatement_1 : decode cX5_readStatement 1 = .ok (.invokevirtual 54, 3) := by decide +kernel
theorem dX5_readStatement_4 : decode cX5_readStatement 4 = .ok (.astore_n 1, 1) := by decide +kernel
theorem dX5_readStatement_5 : decode cX5_readStatement 5 = .ok (.aload_n 1, 1) := by decide +kernel
theorem dX5_readStatement_6 : decode cX5_readStatement 6 = .ok (.getstatic 58, 3) := by decide +kernel
theorem dX5_readStatement_9 : decode cX5_readStatement 9 = .ok (.if_acmp .ne 23, 3) := by decide +kernel
theorem dX5_readStatement_12 : decode cX5_readStatement 12 = .ok (.aload_n 0, 1) := by decide +kernel
theorem dX5_readStatement_13 : decode cX5_readStatement 13 = .ok (.invokevirtual 64, 3) := by decide +kernel
theorem dX5_readStatement_16 : decode cX5_readStatement 16 = .ok (.ifCond .eq 14, 3) := by decide +kernel
theorem dX5_readStatement_19 : decode cX5_readStatement 19 = .ok (.aload_n 0, 1) := by decide +kernel
theorem dX5_readStatement_20 : decode cX5_readStatement 20 = .ok (.invokevirtual 67, 3) := by decide +kernel
theorem dX5_readStatement_23 : decode cX5_readStatement 23 = .ok (.ifCond .eq 7, 3) := by decide +kernel
theorem dX5_readStatement_26 : decode cX5_readStatement 26 = .ok (.iconst 1, 1) := by decide +kernel
theorem dX5_readStatement_27 : decode cX5_readStatement 27 = .ok (.goto 4, 3) := by decide +kernel
theorem dX5_readStatement_30 : decode cX5_readStatement 30 = .ok (.iconst 0, 1) := by decide +kernel
theorem dX5_readStatement_31 : decode cX5_readStatement 31 = .ok (.ireturn, 1) := by decide +kernel
theorem dX5_readStatement_32 : decode cX5_readStatement 32 = .ok (.aload_n 1, 1) := by decide +kernel
theorem dX5_readStatement_33 : decode cX5_readStatement 33 = .ok (.ifnull 11, 3) := by decide +kernel
theorem dX5_readStatement_36 : decode cX5_readStatement 36 = .ok (.aload_n 1, 1) := by decide +kernel
theorem dX5_readStatement_37 : decode cX5_readStatement 37 = .ok (.getfield 70, 3) := by decide +kernel
theorem dX5_readStatement_40 : decode cX5_readStatement 40 = .ok (.iconst (-1), 1) := by decide +kernel
theorem dX5_readStatement_41 : decode cX5_readStatement 41 = .ok (.if_icmp .ne 9, 3) := by decide +kernel
theorem dX5_readStatement_44 : decode cX5_readStatement 44 = .ok (.aload_n 0, 1) := by decide +kernel
theorem dX5_readStatement_45 : decode cX5_readStatement 45 = .ok (.iconst 1, 1) := by decide +kernel
theorem dX5_readStatement_46 : decode cX5_readStatement 46 = .ok (.invokevirtual 47, 3) := by decide +kernel
theorem dX5_readStatement_49 : decode cX5_readStatement 49 = .ok (.ireturn, 1) := by decide +kernel
theorem dX5_readStatement_50 : decode cX5_readStatement 50 = .ok (.aload_n 0, 1) := by decide +kernel
theorem dX5_readStatement_51 : decode cX5_readStatement 51 = .ok (.aload_n 1, 1) := by decide +kernel
theorem dX5_readStatement_52 : decode cX5_readStatement 52 = .ok (.invokevirtual 73, 3) := by decide +kernel
theorem dX5_readStatement_55 : decode cX5_readStatement 55 = .ok (.ifCond .eq 14, 3) := by decide +kernel
theorem dX5_readStatement_58 : decode cX5_readStatement 58 = .ok (.aload_n 0, 1) := by decide +kernel
theorem dX5_readStatement_59 : decode cX5_readStatement 59 = .ok (.invokevirtual 67, 3) := by decide +kernel
theorem dX5_readStatement_62 : decode cX5_readStatement 62 = .ok (.ifCond .eq 7, 3) := by decide +kernel
theorem dX5_readStatement_65 : decode cX5_readStatement 65 = .ok (.iconst 1, 1) := by decide +kernel
theorem dX5_readStatement_66 : decode cX5_readStatement 66 = .ok (.goto 4, 3) := by decide +kernel
theorem dX5_readStatement_69 : decode cX5_readStatement 69 = .ok (.iconst 0, 1) := by decide +kernel
theorem dX5_readStatement_70 : decode cX5_readStatement 70 = .ok (.ireturn, 1) := by decide +kernel
theorem hyX5_readStatement : yX5_readStatement.cls ≠ "java/lang/invoke/MethodHandle" ∧ yX5_readStatement.cls ≠ "java/lang/invoke/VarHandle" ∧ (parseMethodDescriptor yX5_readStatement.desc).map (fun d => d.parameters.length) = some 0 := ⟨by decide +kernel, by decide +kernel, by decide +kernel⟩
set_option maxRecDepth 100000 in
set_option maxHeartbeats 4000000 in
theorem wjX5_readStatement_44 (C : zC p s m args meth c cX5_readStatement RX5 2 D Ca B En) (hRm : zRm R 8 173 cells slots) (ev : zEv) (hZ : ∀ U : State, En U → zEnv ev B U) (σ : zS) (x0 : Nat)  (τ : zS) (r : Int32) (hf : jX5_readStatement_44 σ x0  = some (τ, r)) (hq : ∀ (pc : Nat) (lv : List (Nat × Value)), (r = 0 ∨ r = 1) → decode cX5_readStatement pc = .ok (.ireturn, 1) → zW p l e R s m args below meth c cells slots Q D Ca B 2 τ N pc lv [.int r]) : zW p l e R s m args below meth c cells slots Q D Ca B 2 σ N 44 [(0, .ref x0)] [] := by
  unfold jX5_readStatement_44 at hf
  refine z_aload_n C dX5_readStatement_44 rfl 0 rfl ?_
  refine z_iconst C (zi 1) dX5_readStatement_45 (by decide) ?_
  obtain ⟨c4, hc4, hf⟩ := zbind hf
  obtain ⟨kc4, hc4⟩ := zck_ok hc4
  refine z_callVi (As := [.int ((zi 1))]) (F0 := 8) (L0 := 173) C (mX5_refuse l D Ca B En C.2.2.2.2.2.2.2.1 σ N x0 ((zi 1)) _ hc4) hRm kc4 rfl kw_898 kw_3 kw_895 kw_897 kp_25 hyX5_refuse (Nat.le_of_ble_eq_true rfl) (Nat.le_of_ble_eq_true rfl) rfl rfl (Nat.le_of_ble_eq_true rfl) dX5_readStatement_46 ?_
  obtain ⟨e9, b9⟩ := zrZ_ok hf
  cases e9
  exact hq _ _ b9 dX5_readStatement_49

set_option maxRecDepth 100000 in
set_option maxHeartbeats 4000000 in
theorem wfX5_readStatement (C : zC p s m args meth c cX5_readStatement RX5 2 D Ca B En) (hRm : zRm R 8 173 cells slots) (ev : zEv) (hZ : ∀ U : State, En U → zEnv ev B U) (σ : zS) (x0 : Nat) (τ : zS) (r : Int32) (hf : fX5_readStatement σ x0 = some (τ, r)) (hq : ∀ (pc : Nat) (lv : List (Nat × Value)), (r = 0 ∨ r = 1) → decode cX5_readStatement pc = .ok (.ireturn, 1) → zW p l e R s m args below meth c cells slots Q D Ca B 2 τ N pc lv [.int r]) : zW p l e R s m args below meth c cells slots Q D Ca B 2 σ N 0 [(0, .ref x0)] [] := by
  unfold fX5_readStatement at hf
  refine z_aload_n C dX5_readStatement_0 rfl 0 rfl ?_
  obtain ⟨c1, hc1, hf⟩ := zbind hf
  obtain ⟨kc1, hc1⟩ := zck_ok hc1
  refine z_callVq (As := []) (F0 := 8) (L0 := 173) C (mX5_quotedWord l D Ca B En C.2.2.2.2.2.2.2.1 ev hZ σ N x0  _ hc1) hRm kc1 rfl kw_880 kw_3 kw_877 kw_879 kp_22 hyX5_quotedWord (Nat.le_of_ble_eq_true rfl) (Nat.le_of_ble_eq_true rfl) rfl rfl (Nat.le_of_ble_eq_true rfl) dX5_readStatement_1 ?_
  obtain ⟨w3, ew3⟩ : ∃ z, z = c1.2 := ⟨_, rfl⟩
  rw [← ew3] at hf ⊢
  cases w3 with
  | none =>
    dsimp only at hf
    refine z_astore_nN (lv2 := [(1, .null), (0, .ref x0)]) C dX5_readStatement_4 rfl (by decide) rfl ?_
    refine z_aload_nN C dX5_readStatement_5 rfl 0 rfl ?_
    refine z_gsW C ev hZ 0 (by decide) rfl kw_889 dX5_readStatement_6 ?_
    refine z_acmpW_neN C ev hZ 32 dX5_readStatement_9 (by decide) ?_
    refine z_aload_nN C dX5_readStatement_32 rfl 0 rfl ?_
    refine z_ifnullN C 44 dX5_readStatement_33 (by decide) ?_
    refine z_sub [1] rfl ?_
    exact wjX5_readStatement_44 C hRm ev hZ _ _  _ _ hf hq
  | some a2 =>
    dsimp only at hf
    refine z_astore_n (lv2 := [(1, .ref (ev.1 a2)), (0, .ref x0)]) C dX5_readStatement_4 rfl (by decide) rfl ?_
    refine z_aload_n C dX5_readStatement_5 rfl 0 rfl ?_
    refine z_gsW C ev hZ 0 (by decide) rfl kw_889 dX5_readStatement_6 ?_
    obtain ⟨v5, hv5, hf⟩ := zbind hf
    refine z_acmpW_ne C ev hZ 32 hv5 dX5_readStatement_9 (by decide) (fun q16 => ?_) (fun q16 => ?_)
    · rw [if_neg q16] at hf
      refine z_aload_n C dX5_readStatement_32 rfl 0 rfl ?_
      refine z_ifnull C dX5_readStatement_33 ?_
      refine z_aload_n C dX5_readStatement_36 rfl 0 rfl ?_
      obtain ⟨v6, hv6, hf⟩ := zbind hf
      refine z_gWf C ev hZ hv6 (zwF.getD 0 ("", "", "", [])) (by decide) rfl rfl rfl rfl kw_1376 dX5_readStatement_37 ?_
      refine z_iconst C (zi (-1)) dX5_readStatement_40 (by decide) ?_
      refine z_icmp_ne C 50 dX5_readStatement_41 (by decide) (fun q11 => ?_) (fun q11 => ?_)
      · rw [if_neg q11] at hf
        refine z_aload_n C dX5_readStatement_50 rfl 1 rfl ?_
        refine z_aload_n C dX5_readStatement_51 rfl 0 rfl ?_
        obtain ⟨c7, hc7, hf⟩ := zbind hf
        obtain ⟨kc7, hc7⟩ := zck_ok hc7
        refine z_callVi (As := [.ref (ev.1 a2)]) (F0 := 8) (L0 := 173) C (mX5_readSetting l D Ca B En C.2.2.2.2.2.2.2.1 ev hZ c1.1 N x0 a2 _ hc7) hRm kc7 rfl kw_937 kw_3 kw_934 kw_936 kp_31 hyX5_readSetting (Nat.le_of_ble_eq_true rfl) (Nat.le_of_ble_eq_true rfl) rfl rfl (Nat.le_of_ble_eq_true rfl) dX5_readStatement_52 ?_
        refine z_if_eq C 69 dX5_readStatement_55 (by decide) (fun q10 => ?_) (fun q10 => ?_)
        · rw [if_pos q10] at hf
          refine z_iconst C (zi 0) dX5_readStatement_69 (by decide) ?_
          obtain ⟨e9, b9⟩ := zrZ_ok hf
          cases e9
          exact hq _ _ b9 dX5_readStatement_70
        · rw [if_neg q10] at hf
          refine z_aload_n C dX5_readStatement_58 rfl 1 rfl ?_
          obtain ⟨c8, hc8, hf⟩ := zbind hf
          obtain ⟨kc8, hc8⟩ := zck_ok hc8
          refine z_callVi (As := []) (F0 := 8) (L0 := 173) C (mX5_readSemicolon l D Ca B En C.2.2.2.2.2.2.2.1 c7.1 N x0  _ hc8) hRm kc8 rfl kw_933 kw_3 kw_930 kw_932 kp_30 hyX5_readSemicolon (Nat.le_of_ble_eq_true rfl) (Nat.le_of_ble_eq_true rfl) rfl rfl (Nat.le_of_ble_eq_true rfl) dX5_readStatement_59 ?_
          refine z_if_eq C 69 dX5_readStatement_62 (by decide) (fun q9 => ?_) (fun q9 => ?_)
          · rw [if_pos q9] at hf
            refine z_iconst C (zi 0) dX5_readStatement_69 (by decide) ?_
            obtain ⟨e9, b9⟩ := zrZ_ok hf
            cases e9
            exact hq _ _ b9 dX5_readStatement_70
          · rw [if_neg q9] at hf
            refine z_iconst C (zi 1) dX5_readStatement_65 (by decide) ?_
            refine z_goto C 70 dX5_readStatement_66 (by decide) ?_
            obtain ⟨e9, b9⟩ := zrZ_ok hf
            cases e9
            exact hq _ _ b9 dX5_readStatement_70
      · rw [if_pos q11] at hf
        refine z_sub [1] rfl ?_
        exact wjX5_readStatement_44 C hRm ev hZ _ _  _ _ hf hq
    · rw [if_pos q16] at hf
      refine z_aload_n C dX5_readStatement_12 rfl 1 rfl ?_
      obtain ⟨c12, hc12, hf⟩ := zbind hf
      obtain ⟨kc12, hc12⟩ := zck_ok hc12
      refine z_callVi (As := []) (F0 := 8) (L0 := 173) C (mX5_readSource l D Ca B En C.2.2.2.2.2.2.2.1 ev hZ c1.1 N x0  _ hc12) hRm kc12 rfl kw_894 kw_3 kw_891 kw_893 kp_24 hyX5_readSource (Nat.le_of_ble_eq_true rfl) (Nat.le_of_ble_eq_true rfl) rfl rfl (Nat.le_of_ble_eq_true rfl) dX5_readStatement_13 ?_
      refine z_if_eq C 30 dX5_readStatement_16 (by decide) (fun q15 => ?_) (fun q15 => ?_)
      · rw [if_pos q15] at hf
        refine z_iconst C (zi 0) dX5_readStatement_30 (by decide) ?_
        obtain ⟨e9, b9⟩ := zrZ_ok hf
        cases e9
        exact hq _ _ b9 dX5_readStatement_31
      · rw [if_neg q15] at hf
        refine z_aload_n C dX5_readStatement_19 rfl 1 rfl ?_
        obtain ⟨c13, hc13, hf⟩ := zbind hf
        obtain ⟨kc13, hc13⟩ := zck_ok hc13
        refine z_callVi (As := []) (F0 := 8) (L0 := 173) C (mX5_readSemicolon l D Ca B En C.2.2.2.2.2.2.2.1 c12.1 N x0  _ hc13) hRm kc13 rfl kw_933 kw_3 kw_930 kw_932 kp_30 hyX5_readSemicolon (Nat.le_of_ble_eq_true rfl) (Nat.le_of_ble_eq_true rfl) rfl rfl (Nat.le_of_ble_eq_true rfl) dX5_readStatement_20 ?_
        refine z_if_eq C 30 dX5_readStatement_23 (by decide) (fun q14 => ?_) (fun q14 => ?_)
        · rw [if_pos q14] at hf
          refine z_iconst C (zi 0) dX5_readStatement_30 (by decide) ?_
          obtain ⟨e9, b9⟩ := zrZ_ok hf
          cases e9
          exact hq _ _ b9 dX5_readStatement_31
        · rw [if_neg q14] at hf
          refine z_iconst C (zi 1) dX5_readStatement_26 (by decide) ?_
          refine z_goto C 31 dX5_readStatement_27 (by decide) ?_
          obtain ⟨e9, b9⟩ := zrZ_ok hf
          cases e9
          exact hq _ _ b9 dX5_readStatement_31

theorem mX5_readStatement (l : Launch) (D : va_G) (Ca : Nat → ClassId) (B : Nat) (En : State → Prop) (hE : zEk B En) (ev : zEv) (hZ : ∀ U : State, En U → zEnv ev B U) (σ : zS) (N : Nat) (x0 : Nat) (X : zS × Int32) (hf : fX5_readStatement σ x0 = some X) : zMi l D Ca B En yX5_readStatement cX5_readStatement 2 (Option.some Jvm.ClassFile.FieldType.boolean) 8 173 [.ref x0] σ N X.1 X.2 :=
  zMet_i (own := RX5) hE (by decide +kernel) rfl (Nat.le_of_ble_eq_true rfl) (fun p e s m args below meth c C hr hRm => wfX5_readStatement C hRm ev hZ σ x0 X.1 X.2 hf (fun pc lv hb hd => zfin_z C hb hr hd))
theorem dX7_makeRecords_0 : decode cX7_makeRecords 0 = .ok (.aload_n 0, 1) := by decide +kernel
theorem dX7_makeRecords_1 : decode cX7_makeRecords 1 = .ok (.getfield 15, 3) := by decide +kernel
theorem dX7_makeRecords_4 : decode cX7_makeRecords 4 = .ok (.iload_n 1, 1) := by decide +kernel
theorem dX7_makeRecords_5 : decode cX7_makeRecords 5 = .ok (.iaload, 1) := by decide +kernel
theorem dX7_makeRecords_6 : decode cX7_makeRecords 6 = .ok (.istore_n 2, 1) := by decide +kernel
theorem dX7_makeRecords_7 : decode cX7_makeRecords 7 = .ok (.iconst 0, 1) := by decide +kernel
theorem dX7_makeRecords_8 : decode cX7_makeRecords 8 = .ok (.istore_n 3, 1) := by decide +kernel
theorem dX7_makeRecords_9 : decode cX7_makeRecords 9 = .ok (.iload_n 3, 1) := by decide +kernel
theorem dX7_makeRecords_10 : decode cX7_makeRecords 10 = .ok (.aload_n 0, 1) := by decide +kernel
theorem dX7_makeRecords_11 : decode cX7_makeRecords 11 = .ok (.getfield 9, 3) := by decide +kernel
theorem dX7_makeRecords_14 : decode cX7_makeRecords 14 = .ok (.iload_n 1, 1) := by decide +kernel
theorem dX7_makeRecords_15 : decode cX7_makeRecords 15 = .ok (.iaload, 1) := by decide +kernel
theorem dX7_makeRecords_16 : decode cX7_makeRecords 16 = .ok (.if_icmp .ge 63, 3) := by decide +kernel
theorem dX7_makeRecords_19 : decode cX7_makeRecords 19 = .ok (.iload_n 3, 1) := by decide +kernel
theorem dX7_makeRecords_20 : decode cX7_makeRecords 20 = .ok (.sipush 200, 3) := by decide +kernel
theorem dX7_makeRecords_23 : decode cX7_makeRecords 23 = .ok (.if_icmp .ge 56, 3) := by decide +kernel
theorem dX7_makeRecords_26 : decode cX7_makeRecords 26 = .ok (.iload_n 1, 1) := by decide +kernel
theorem dX7_makeRecords_27 : decode cX7_makeRecords 27 = .ok (.iload_n 3, 1) := by decide +kernel
theorem dX7_makeRecords_28 : decode cX7_makeRecords 28 = .ok (.invokestatic 74, 3) := by decide +kernel
theorem dX7_makeRecords_31 : decode cX7_makeRecords 31 = .ok (.istore 4, 2) := by decide +kernel
theorem dX7_makeRecords_33 : decode cX7_makeRecords 33 = .ok (.aload_n 0, 1) := by decide +kernel
theorem dX7_makeRecords_34 : decode cX7_makeRecords 34 = .ok (.getfield 31, 3) := by decide +kernel
theorem dX7_makeRecords_37 : decode cX7_makeRecords 37 = .ok (.iload 4, 2) := by decide +kernel
theorem dX7_makeRecords_39 : decode cX7_makeRecords 39 = .ok (.iconst 4, 1) := by decide +kernel
theorem dX7_makeRecords_40 : decode cX7_makeRecords 40 = .ok (.iload_n 2, 1) := by decide +kernel
theorem dX7_makeRecords_41 : decode cX7_makeRecords 41 = .ok (.iload_n 3, 1) := by decide +kernel
theorem dX7_makeRecords_42 : decode cX7_makeRecords 42 = .ok (.iload_n 3, 1) := by decide +kernel
theorem dX7_makeRecords_43 : decode cX7_makeRecords 43 = .ok (.imul, 1) := by decide +kernel
theorem dX7_makeRecords_44 : decode cX7_makeRecords 44 = .ok (.iadd, 1) := by decide +kernel
theorem dX7_makeRecords_45 : decode cX7_makeRecords 45 = .ok (.iload_n 3, 1) := by decide +kernel
theorem dX7_makeRecords_46 : decode cX7_makeRecords 46 = .ok (.iconst 2, 1) := by decide +kernel
theorem dX7_makeRecords_47 : decode cX7_makeRecords 47 = .ok (.idiv, 1) := by decide +kernel
theorem dX7_makeRecords_48 : decode cX7_makeRecords 48 = .ok (.iadd, 1) := by decide +kernel
theorem dX7_makeRecords_49 : decode cX7_makeRecords 49 = .ok (.iconst 4, 1) := by decide +kernel
theorem dX7_makeRecords_50 : decode cX7_makeRecords 50 = .ok (.irem, 1) := by decide +kernel
theorem dX7_makeRecords_51 : decode cX7_makeRecords 51 = .ok (.imul, 1) := by decide +kernel
theorem dX7_makeRecords_52 : decode cX7_makeRecords 52 = .ok (.iload_n 1, 1) := by decide +kernel
theorem dX7_makeRecords_53 : decode cX7_makeRecords 53 = .ok (.iadd, 1) := by decide +kernel
theorem dX7_makeRecords_54 : decode cX7_makeRecords 54 = .ok (.iastore, 1) := by decide +kernel
theorem dX7_makeRecords_55 : decode cX7_makeRecords 55 = .ok (.aload_n 0, 1) := by decide +kernel
theorem dX7_makeRecords_56 : decode cX7_makeRecords 56 = .ok (.getfield 34, 3) := by decide +kernel
theorem dX7_makeRecords_59 : decode cX7_makeRecords 59 = .ok (.iload 4, 2) := by decide +kernel
theorem dX7_makeRecords_61 : decode cX7_makeRecords 61 = .ok (.iload_n 2, 1) := by decide +kernel
theorem dX7_makeRecords_62 : decode cX7_makeRecords 62 = .ok (.bipush 7, 2) := by decide +kernel
theorem dX7_makeRecords_64 : decode cX7_makeRecords 64 = .ok (.iload_n 3, 1) := by decide +kernel
theorem dX7_makeRecords_65 : decode cX7_makeRecords 65 = .ok (.imul, 1) := by decide +kernel
theorem dX7_makeRecords_66 : decode cX7_makeRecords 66 = .ok (.iadd, 1) := by decide +kernel
theorem dX7_makeRecords_67 : decode cX7_makeRecords 67 = .ok (.bipush 50, 2) := by decide +kernel
theorem dX7_makeRecords_69 : decode cX7_makeRecords 69 = .ok (.irem, 1) := by decide +kernel
theorem dX7_makeRecords_70 : decode cX7_makeRecords 70 = .ok (.iconst 1, 1) := by decide +kernel
theorem dX7_makeRecords_71 : decode cX7_makeRecords 71 = .ok (.iadd, 1) := by decide +kernel
theorem dX7_makeRecords_72 : decode cX7_makeRecords 72 = .ok (.iastore, 1) := by decide +kernel
theorem dX7_makeRecords_73 : decode cX7_makeRecords 73 = .ok (.iinc 3 1, 3) := by decide +kernel
theorem dX7_makeRecords_76 : decode cX7_makeRecords 76 = .ok (.goto (-67), 3) := by decide +kernel
theorem dX7_makeRecords_79 : decode cX7_makeRecords 79 = .ok (.return_, 1) := by decide +kernel
theorem hyX7_makeRecords : yX7_makeRecords.cls ≠ "java/lang/invoke/MethodHandle" ∧ yX7_makeRecords.cls ≠ "java/lang/invoke/VarHandle" ∧ (parseMethodDescriptor yX7_makeRecords.desc).map (fun d => d.parameters.length) = some 1 := ⟨by decide +kernel, by decide +kernel, by decide +kernel⟩
set_option maxRecDepth 100000 in
set_option maxHeartbeats 4000000 in
theorem wsX7_makeRecords_9b (C : zC p s m args meth c cX7_makeRecords RX7 5 D Ca B En) (hRm : zRm R 1 21 cells slots) (x0 : Nat) (x1 : Int32) (x2 : Int32) (σ : zS) (u3 : Int32) (y : (zS × Int32) ⊕ zS) (hf : sX7_makeRecords_9b x0 x1 x2 σ u3 = some y) (hk : (∀ z : (zS × Int32), y = .inl z → zW p l e R s m args below meth c cells slots Q D Ca B 5 z.1 N 9 [(0, .ref x0), (1, .int x1), (2, .int x2), (3, .int z.2)] []) ∧ (∀ z : zS, y = .inr z → zW p l e R s m args below meth c cells slots Q D Ca B 5 z N 79 [] [])) : zW p l e R s m args below meth c cells slots Q D Ca B 5 σ N 9 [(0, .ref x0), (1, .int x1), (2, .int x2), (3, .int u3)] [] := by
  unfold sX7_makeRecords_9b at hf
  refine z_iload_n C dX7_makeRecords_9 rfl 3 rfl ?_
  refine z_aload_n C dX7_makeRecords_10 rfl 0 rfl ?_
  obtain ⟨v3, hv3, hf⟩ := zbind hf
  refine gf_RX7_9 C hv3 dX7_makeRecords_11 ?_
  refine z_iload_n C dX7_makeRecords_14 rfl 1 rfl ?_
  obtain ⟨v4, hv4, hf⟩ := zbind hf
  refine z_aI C hv4 dX7_makeRecords_15 ?_
  refine z_icmp_ge C 79 dX7_makeRecords_16 (by decide) (fun q11 => ?_) (fun q11 => ?_)
  · rw [if_pos q11] at hf
    cases hf
    refine z_sub [] rfl ?_
    exact hk.2 _ rfl
  · rw [if_neg q11] at hf
    refine z_iload_n C dX7_makeRecords_19 rfl 3 rfl ?_
    refine z_sipush C (zi 200) dX7_makeRecords_20 (by decide) ?_
    refine z_icmp_ge C 79 dX7_makeRecords_23 (by decide) (fun q10 => ?_) (fun q10 => ?_)
    · rw [if_pos q10] at hf
      cases hf
      refine z_sub [] rfl ?_
      exact hk.2 _ rfl
    · rw [if_neg q10] at hf
      refine z_iload_n C dX7_makeRecords_26 rfl 1 rfl ?_
      refine z_iload_n C dX7_makeRecords_27 rfl 3 rfl ?_
      obtain ⟨c5, hc5, hf⟩ := zbind hf
      refine z_callSNi (host := "BarrierFlow") (As := [.int x1, .int u3]) (F0 := 1) (L0 := 21) C (mX9_numberOf l D Ca B En C.2.2.2.2.2.2.2.1 σ N x1 u3 _ hc5) hRm kw_182 kw_1 (by decide) kw_181 hyX9_numberOf (Nat.le_of_ble_eq_true rfl) (Nat.le_of_ble_eq_true rfl) rfl rfl (Nat.le_of_ble_eq_true rfl) dX7_makeRecords_28 ?_
      refine z_istore (lv2 := [(4, .int c5.2), (0, .ref x0), (1, .int x1), (2, .int x2), (3, .int u3)]) C dX7_makeRecords_31 (by decide) rfl ?_
      refine z_aload_n C dX7_makeRecords_33 rfl 1 rfl ?_
      obtain ⟨v6, hv6, hf⟩ := zbind hf
      refine gf_RX7_31 C hv6 dX7_makeRecords_34 ?_
      refine z_iload C dX7_makeRecords_37 0 rfl ?_
      refine z_iconst C (zi 4) dX7_makeRecords_39 (by decide) ?_
      refine z_iload_n C dX7_makeRecords_40 rfl 3 rfl ?_
      refine z_iload_n C dX7_makeRecords_41 rfl 4 rfl ?_
      refine z_iload_n C dX7_makeRecords_42 rfl 4 rfl ?_
      refine z_imul C dX7_makeRecords_43 ?_
      refine z_iadd C dX7_makeRecords_44 ?_
      refine z_iload_n C dX7_makeRecords_45 rfl 4 rfl ?_
      refine z_iconst C (zi 2) dX7_makeRecords_46 (by decide) ?_
      refine z_idiv C dX7_makeRecords_47 (by decide) ?_
      refine z_iadd C dX7_makeRecords_48 ?_
      refine z_iconst C (zi 4) dX7_makeRecords_49 (by decide) ?_
      refine z_irem C dX7_makeRecords_50 (by decide) ?_
      refine z_imul C dX7_makeRecords_51 ?_
      refine z_iload_n C dX7_makeRecords_52 rfl 2 rfl ?_
      refine z_iadd C dX7_makeRecords_53 ?_
      obtain ⟨σ7, hσ7, hf⟩ := zbind hf
      refine z_sI C hσ7 dX7_makeRecords_54 ?_
      refine z_aload_n C dX7_makeRecords_55 rfl 1 rfl ?_
      obtain ⟨v8, hv8, hf⟩ := zbind hf
      refine gf_RX7_34 C hv8 dX7_makeRecords_56 ?_
      refine z_iload C dX7_makeRecords_59 0 rfl ?_
      refine z_iload_n C dX7_makeRecords_61 rfl 3 rfl ?_
      refine z_bipush C (zi 7) dX7_makeRecords_62 (by decide) ?_
      refine z_iload_n C dX7_makeRecords_64 rfl 4 rfl ?_
      refine z_imul C dX7_makeRecords_65 ?_
      refine z_iadd C dX7_makeRecords_66 ?_
      refine z_bipush C (zi 50) dX7_makeRecords_67 (by decide) ?_
      refine z_irem C dX7_makeRecords_69 (by decide) ?_
      refine z_iconst C (zi 1) dX7_makeRecords_70 (by decide) ?_
      refine z_iadd C dX7_makeRecords_71 ?_
      obtain ⟨σ9, hσ9, hf⟩ := zbind hf
      refine z_sI C hσ9 dX7_makeRecords_72 ?_
      refine z_iinc (lv2 := [(3, .int (u3 + (zi 1))), (4, .int c5.2), (0, .ref x0), (1, .int x1), (2, .int x2)]) C (u3 + (zi 1)) dX7_makeRecords_73 4 rfl rfl (by decide) rfl ?_
      refine z_goto C 9 dX7_makeRecords_76 (by decide) ?_
      cases hf
      refine z_sub [2, 3, 4, 0] rfl ?_
      exact hk.1 _ rfl

theorem wsX7_makeRecords_9 (C : zC p s m args meth c cX7_makeRecords RX7 5 D Ca B En) (hRm : zRm R 1 21 cells slots) (x0 : Nat) (x1 : Int32) (x2 : Int32) (n : Nat) (z : (zS × Int32)) (x : zS) (hf : zloop (sX7_makeRecords_9 x0 x1 x2) n z = some x) (hk : (∀ o : zS, x = o → zW p l e R s m args below meth c cells slots Q D Ca B 5 o N 79 [] [])) : zW p l e R s m args below meth c cells slots Q D Ca B 5 z.1 N 9 [(0, .ref x0), (1, .int x1), (2, .int x2), (3, .int z.2)] [] := by
  refine zloop_W (P := fun z : (zS × Int32) => zW p l e R s m args below meth c cells slots Q D Ca B 5 z.1 N 9 [(0, .ref x0), (1, .int x1), (2, .int x2), (3, .int z.2)] []) (K := fun x : zS => (∀ o : zS, x = o → zW p l e R s m args below meth c cells slots Q D Ca B 5 o N 79 [] [])) ?_ n z x hf hk
  intro z y hy h1 h2
  refine wsX7_makeRecords_9b C hRm x0 x1 x2 z.1 z.2 y hy ⟨fun z2 e => h1 z2 e, fun o e => (h2 _ e) o rfl⟩
set_option maxRecDepth 100000 in
set_option maxHeartbeats 4000000 in
theorem wfX7_makeRecords (C : zC p s m args meth c cX7_makeRecords RX7 5 D Ca B En) (hRm : zRm R 1 21 cells slots) (σ : zS) (x0 : Nat) (x1 : Int32) (τ : zS) (hf : fX7_makeRecords σ x0 x1 = some τ) (hq : ∀ (pc : Nat) (lv : List (Nat × Value)), decode cX7_makeRecords pc = .ok (.return_, 1) → zW p l e R s m args below meth c cells slots Q D Ca B 5 τ N pc lv []) : zW p l e R s m args below meth c cells slots Q D Ca B 5 σ N 0 [(0, .ref x0), (1, .int x1)] [] := by
  unfold fX7_makeRecords at hf
  refine z_aload_n C dX7_makeRecords_0 rfl 0 rfl ?_
  obtain ⟨v1, hv1, hf⟩ := zbind hf
  refine gf_RX7_15 C hv1 dX7_makeRecords_1 ?_
  refine z_iload_n C dX7_makeRecords_4 rfl 1 rfl ?_
  obtain ⟨v2, hv2, hf⟩ := zbind hf
  refine z_aI C hv2 dX7_makeRecords_5 ?_
  refine z_istore_n (lv2 := [(2, .int v2), (0, .ref x0), (1, .int x1)]) C dX7_makeRecords_6 rfl (by decide) rfl ?_
  refine z_iconst C (zi 0) dX7_makeRecords_7 (by decide) ?_
  refine z_istore_n (lv2 := [(3, .int ((zi 0))), (2, .int v2), (0, .ref x0), (1, .int x1)]) C dX7_makeRecords_8 rfl (by decide) rfl ?_
  obtain ⟨o12, ho12, hf⟩ := zbind hf
  refine z_sub [2, 3, 1, 0] rfl ?_
  refine wsX7_makeRecords_9 C hRm _ _ _ zfuel (σ, (zi 0)) o12 ho12 ?_
  intro z9 e9
  subst e9
  cases hf
  exact hq _ _ dX7_makeRecords_79

theorem mX7_makeRecords (l : Launch) (D : va_G) (Ca : Nat → ClassId) (B : Nat) (En : State → Prop) (hE : zEk B En) (σ : zS) (N : Nat) (x0 : Nat) (x1 : Int32) (X : zS) (hf : fX7_makeRecords σ x0 x1 = some X) : zMv l D Ca B En yX7_makeRecords cX7_makeRecords 5 (Option.none : Option Jvm.ClassFile.FieldType) 1 21 [.ref x0, .int x1] σ N X () :=
  zMet_v (own := RX7) hE (by decide +kernel) rfl (Nat.le_of_ble_eq_true rfl) (fun p e s m args below meth c C hr hRm => wfX7_makeRecords C hRm σ x0 x1 X hf (fun pc lv hd => zfin_v (r := ()) C hr hd))
theorem dX7_makeResults_0 : decode cX7_makeResults 0 = .ok (.iload_n 1, 1) := by decide +kernel
theorem dX7_makeResults_1 : decode cX7_makeResults 1 = .ok (.istore_n 2, 1) := by decide +kernel
theorem dX7_makeResults_2 : decode cX7_makeResults 2 = .ok (.iload_n 2, 1) := by decide +kernel
theorem dX7_makeResults_3 : decode cX7_makeResults 3 = .ok (.bipush 16, 2) := by decide +kernel
theorem dX7_makeResults_5 : decode cX7_makeResults 5 = .ok (.if_icmp .ge 76, 3) := by decide +kernel
theorem dX7_makeResults_8 : decode cX7_makeResults 8 = .ok (.iconst 0, 1) := by decide +kernel
theorem dX7_makeResults_9 : decode cX7_makeResults 9 = .ok (.istore_n 3, 1) := by decide +kernel
theorem dX7_makeResults_10 : decode cX7_makeResults 10 = .ok (.iconst 0, 1) := by decide +kernel
theorem dX7_makeResults_11 : decode cX7_makeResults 11 = .ok (.istore 4, 2) := by decide +kernel
theorem dX7_makeResults_13 : decode cX7_makeResults 13 = .ok (.iload 4, 2) := by decide +kernel
theorem dX7_makeResults_15 : decode cX7_makeResults 15 = .ok (.aload_n 0, 1) := by decide +kernel
theorem dX7_makeResults_16 : decode cX7_makeResults 16 = .ok (.getfield 9, 3) := by decide +kernel
theorem dX7_makeResults_19 : decode cX7_makeResults 19 = .ok (.iload_n 1, 1) := by decide +kernel
theorem dX7_makeResults_20 : decode cX7_makeResults 20 = .ok (.iaload, 1) := by decide +kernel
theorem dX7_makeResults_21 : decode cX7_makeResults 21 = .ok (.if_icmp .ge 54, 3) := by decide +kernel
theorem dX7_makeResults_24 : decode cX7_makeResults 24 = .ok (.iload 4, 2) := by decide +kernel
theorem dX7_makeResults_26 : decode cX7_makeResults 26 = .ok (.sipush 200, 3) := by decide +kernel
theorem dX7_makeResults_29 : decode cX7_makeResults 29 = .ok (.if_icmp .ge 46, 3) := by decide +kernel
theorem dX7_makeResults_32 : decode cX7_makeResults 32 = .ok (.iload_n 1, 1) := by decide +kernel
theorem dX7_makeResults_33 : decode cX7_makeResults 33 = .ok (.iload 4, 2) := by decide +kernel
theorem dX7_makeResults_35 : decode cX7_makeResults 35 = .ok (.invokestatic 74, 3) := by decide +kernel
theorem dX7_makeResults_38 : decode cX7_makeResults 38 = .ok (.istore 5, 2) := by decide +kernel
theorem dX7_makeResults_40 : decode cX7_makeResults 40 = .ok (.aload_n 0, 1) := by decide +kernel
theorem dX7_makeResults_41 : decode cX7_makeResults 41 = .ok (.getfield 31, 3) := by decide +kernel
theorem dX7_makeResults_44 : decode cX7_makeResults 44 = .ok (.iload 5, 2) := by decide +kernel
theorem dX7_makeResults_46 : decode cX7_makeResults 46 = .ok (.iaload, 1) := by decide +kernel
theorem dX7_makeResults_47 : decode cX7_makeResults 47 = .ok (.iload_n 2, 1) := by decide +kernel
theorem dX7_makeResults_48 : decode cX7_makeResults 48 = .ok (.if_icmp .ne 21, 3) := by decide +kernel
theorem dX7_makeResults_51 : decode cX7_makeResults 51 = .ok (.iload_n 3, 1) := by decide +kernel
theorem dX7_makeResults_52 : decode cX7_makeResults 52 = .ok (.aload_n 0, 1) := by decide +kernel
theorem dX7_makeResults_53 : decode cX7_makeResults 53 = .ok (.getfield 34, 3) := by decide +kernel
theorem dX7_makeResults_56 : decode cX7_makeResults 56 = .ok (.iload 5, 2) := by decide +kernel
theorem dX7_makeResults_58 : decode cX7_makeResults 58 = .ok (.iaload, 1) := by decide +kernel
theorem dX7_makeResults_59 : decode cX7_makeResults 59 = .ok (.iadd, 1) := by decide +kernel
theorem dX7_makeResults_60 : decode cX7_makeResults 60 = .ok (.istore_n 3, 1) := by decide +kernel
theorem dX7_makeResults_61 : decode cX7_makeResults 61 = .ok (.aload_n 0, 1) := by decide +kernel
theorem dX7_makeResults_62 : decode cX7_makeResults 62 = .ok (.getfield 37, 3) := by decide +kernel
theorem dX7_makeResults_65 : decode cX7_makeResults 65 = .ok (.iload 5, 2) := by decide +kernel
theorem dX7_makeResults_67 : decode cX7_makeResults 67 = .ok (.iload_n 3, 1) := by decide +kernel
theorem dX7_makeResults_68 : decode cX7_makeResults 68 = .ok (.iastore, 1) := by decide +kernel
theorem dX7_makeResults_69 : decode cX7_makeResults 69 = .ok (.iinc 4 1, 3) := by decide +kernel
theorem dX7_makeResults_72 : decode cX7_makeResults 72 = .ok (.goto (-59), 3) := by decide +kernel
theorem dX7_makeResults_75 : decode cX7_makeResults 75 = .ok (.iinc 2 4, 3) := by decide +kernel
theorem dX7_makeResults_78 : decode cX7_makeResults 78 = .ok (.goto (-76), 3) := by decide +kernel
theorem dX7_makeResults_81 : decode cX7_makeResults 81 = .ok (.return_, 1) := by decide +kernel
theorem hyX7_makeResults : yX7_makeResults.cls ≠ "java/lang/invoke/MethodHandle" ∧ yX7_makeResults.cls ≠ "java/lang/invoke/VarHandle" ∧ (parseMethodDescriptor yX7_makeResults.desc).map (fun d => d.parameters.length) = some 1 := ⟨by decide +kernel, by decide +kernel, by decide +kernel⟩
set_option maxRecDepth 100000 in
set_option maxHeartbeats 4000000 in
theorem wjX7_makeResults_69_L13 (C : zC p s m args meth c cX7_makeResults RX7 6 D Ca B En) (hRm : zRm R 1 21 cells slots) (σ : zS) (x0 : Nat) (x1 : Int32) (x2 : Int32) (x3 : Int32) (x4 : Int32)  (y : (zS × Int32 × Int32) ⊕ zS) (hf : jX7_makeResults_69_L13 σ x0 x1 x2 x3 x4  = some y) (hk : (∀ z : (zS × Int32 × Int32), y = .inl z → zW p l e R s m args below meth c cells slots Q D Ca B 6 z.1 N 13 [(0, .ref x0), (1, .int x1), (2, .int x2), (3, .int z.2.1), (4, .int z.2.2)] []) ∧ (∀ z : zS, y = .inr z → zW p l e R s m args below meth c cells slots Q D Ca B 6 z N 75 [(0, .ref x0), (1, .int x1), (2, .int x2)] [])) : zW p l e R s m args below meth c cells slots Q D Ca B 6 σ N 69 [(0, .ref x0), (1, .int x1), (2, .int x2), (3, .int x3), (4, .int x4)] [] := by
  unfold jX7_makeResults_69_L13 at hf
  refine z_iinc (lv2 := [(4, .int (x4 + (zi 1))), (0, .ref x0), (1, .int x1), (2, .int x2), (3, .int x3)]) C (x4 + (zi 1)) dX7_makeResults_69 4 rfl rfl (by decide) rfl ?_
  refine z_goto C 13 dX7_makeResults_72 (by decide) ?_
  cases hf
  refine z_sub [1, 2, 3, 4, 0] rfl ?_
  exact hk.1 _ rfl

set_option maxRecDepth 100000 in
set_option maxHeartbeats 4000000 in
theorem wsX7_makeResults_13b (C : zC p s m args meth c cX7_makeResults RX7 6 D Ca B En) (hRm : zRm R 1 21 cells slots) (x0 : Nat) (x1 : Int32) (x2 : Int32) (σ : zS) (u3 : Int32) (u4 : Int32) (y : (zS × Int32 × Int32) ⊕ zS) (hf : sX7_makeResults_13b x0 x1 x2 σ u3 u4 = some y) (hk : (∀ z : (zS × Int32 × Int32), y = .inl z → zW p l e R s m args below meth c cells slots Q D Ca B 6 z.1 N 13 [(0, .ref x0), (1, .int x1), (2, .int x2), (3, .int z.2.1), (4, .int z.2.2)] []) ∧ (∀ z : zS, y = .inr z → zW p l e R s m args below meth c cells slots Q D Ca B 6 z N 75 [(0, .ref x0), (1, .int x1), (2, .int x2)] [])) : zW p l e R s m args below meth c cells slots Q D Ca B 6 σ N 13 [(0, .ref x0), (1, .int x1), (2, .int x2), (3, .int u3), (4, .int u4)] [] := by
  unfold sX7_makeResults_13b at hf
  refine z_iload C dX7_makeResults_13 4 rfl ?_
  refine z_aload_n C dX7_makeResults_15 rfl 0 rfl ?_
  obtain ⟨v1, hv1, hf⟩ := zbind hf
  refine gf_RX7_9 C hv1 dX7_makeResults_16 ?_
  refine z_iload_n C dX7_makeResults_19 rfl 1 rfl ?_
  obtain ⟨v2, hv2, hf⟩ := zbind hf
  refine z_aI C hv2 dX7_makeResults_20 ?_
  refine z_icmp_ge C 75 dX7_makeResults_21 (by decide) (fun q12 => ?_) (fun q12 => ?_)
  · rw [if_pos q12] at hf
    cases hf
    refine z_sub [0, 1, 2] rfl ?_
    exact hk.2 _ rfl
  · rw [if_neg q12] at hf
    refine z_iload C dX7_makeResults_24 4 rfl ?_
    refine z_sipush C (zi 200) dX7_makeResults_26 (by decide) ?_
    refine z_icmp_ge C 75 dX7_makeResults_29 (by decide) (fun q11 => ?_) (fun q11 => ?_)
    · rw [if_pos q11] at hf
      cases hf
      refine z_sub [0, 1, 2] rfl ?_
      exact hk.2 _ rfl
    · rw [if_neg q11] at hf
      refine z_iload_n C dX7_makeResults_32 rfl 1 rfl ?_
      refine z_iload C dX7_makeResults_33 4 rfl ?_
      obtain ⟨c3, hc3, hf⟩ := zbind hf
      refine z_callSNi (host := "BarrierFlow") (As := [.int x1, .int u4]) (F0 := 1) (L0 := 21) C (mX9_numberOf l D Ca B En C.2.2.2.2.2.2.2.1 σ N x1 u4 _ hc3) hRm kw_182 kw_1 (by decide) kw_181 hyX9_numberOf (Nat.le_of_ble_eq_true rfl) (Nat.le_of_ble_eq_true rfl) rfl rfl (Nat.le_of_ble_eq_true rfl) dX7_makeResults_35 ?_
      refine z_istore (lv2 := [(5, .int c3.2), (0, .ref x0), (1, .int x1), (2, .int x2), (3, .int u3), (4, .int u4)]) C dX7_makeResults_38 (by decide) rfl ?_
      refine z_aload_n C dX7_makeResults_40 rfl 1 rfl ?_
      obtain ⟨v4, hv4, hf⟩ := zbind hf
      refine gf_RX7_31 C hv4 dX7_makeResults_41 ?_
      refine z_iload C dX7_makeResults_44 0 rfl ?_
      obtain ⟨v5, hv5, hf⟩ := zbind hf
      refine z_aI C hv5 dX7_makeResults_46 ?_
      refine z_iload_n C dX7_makeResults_47 rfl 3 rfl ?_
      refine z_icmp_ne C 69 dX7_makeResults_48 (by decide) (fun q10 => ?_) (fun q10 => ?_)
      · rw [if_neg q10] at hf
        refine z_sub [1, 2, 3, 4, 5] rfl ?_
        exact wjX7_makeResults_69_L13 C hRm _ _ _ _ _ _  _ hf hk
      · rw [if_pos q10] at hf
        refine z_iload_n C dX7_makeResults_51 rfl 4 rfl ?_
        refine z_aload_n C dX7_makeResults_52 rfl 1 rfl ?_
        obtain ⟨v6, hv6, hf⟩ := zbind hf
        refine gf_RX7_34 C hv6 dX7_makeResults_53 ?_
        refine z_iload C dX7_makeResults_56 0 rfl ?_
        obtain ⟨v7, hv7, hf⟩ := zbind hf
        refine z_aI C hv7 dX7_makeResults_58 ?_
        refine z_iadd C dX7_makeResults_59 ?_
        refine z_istore_n (lv2 := [(3, .int (u3 + v7)), (5, .int c3.2), (0, .ref x0), (1, .int x1), (2, .int x2), (4, .int u4)]) C dX7_makeResults_60 rfl (by decide) rfl ?_
        refine z_aload_n C dX7_makeResults_61 rfl 2 rfl ?_
        obtain ⟨v8, hv8, hf⟩ := zbind hf
        refine gf_RX7_37 C hv8 dX7_makeResults_62 ?_
        refine z_iload C dX7_makeResults_65 1 rfl ?_
        refine z_iload_n C dX7_makeResults_67 rfl 0 rfl ?_
        obtain ⟨σ9, hσ9, hf⟩ := zbind hf
        refine z_sI C hσ9 dX7_makeResults_68 ?_
        refine z_sub [2, 3, 4, 0, 5] rfl ?_
        exact wjX7_makeResults_69_L13 C hRm _ _ _ _ _ _  _ hf hk

theorem wsX7_makeResults_13 (C : zC p s m args meth c cX7_makeResults RX7 6 D Ca B En) (hRm : zRm R 1 21 cells slots) (x0 : Nat) (x1 : Int32) (x2 : Int32) (n : Nat) (z : (zS × Int32 × Int32)) (x : zS) (hf : zloop (sX7_makeResults_13 x0 x1 x2) n z = some x) (hk : (∀ o : zS, x = o → zW p l e R s m args below meth c cells slots Q D Ca B 6 o N 75 [(0, .ref x0), (1, .int x1), (2, .int x2)] [])) : zW p l e R s m args below meth c cells slots Q D Ca B 6 z.1 N 13 [(0, .ref x0), (1, .int x1), (2, .int x2), (3, .int z.2.1), (4, .int z.2.2)] [] := by
  refine zloop_W (P := fun z : (zS × Int32 × Int32) => zW p l e R s m args below meth c cells slots Q D Ca B 6 z.1 N 13 [(0, .ref x0), (1, .int x1), (2, .int x2), (3, .int z.2.1), (4, .int z.2.2)] []) (K := fun x : zS => (∀ o : zS, x = o → zW p l e R s m args below meth c cells slots Q D Ca B 6 o N 75 [(0, .ref x0), (1, .int x1), (2, .int x2)] [])) ?_ n z x hf hk
  intro z y hy h1 h2
  refine wsX7_makeResults_13b C hRm x0 x1 x2 z.1 z.2.1 z.2.2 y hy ⟨fun z2 e => h1 z2 e, fun o e => (h2 _ e) o rfl⟩
set_option maxRecDepth 100000 in
set_option maxHeartbeats 4000000 in
theorem wjX7_makeResults_75_L2 (C : zC p s m args meth c cX7_makeResults RX7 6 D Ca B En) (hRm : zRm R 1 21 cells slots) (σ : zS) (x0 : Nat) (x1 : Int32) (x2 : Int32)  (y : (zS × Int32) ⊕ zS) (hf : jX7_makeResults_75_L2 σ x0 x1 x2  = some y) (hk : (∀ z : (zS × Int32), y = .inl z → zW p l e R s m args below meth c cells slots Q D Ca B 6 z.1 N 2 [(0, .ref x0), (1, .int x1), (2, .int z.2)] []) ∧ (∀ z : zS, y = .inr z → zW p l e R s m args below meth c cells slots Q D Ca B 6 z N 81 [] [])) : zW p l e R s m args below meth c cells slots Q D Ca B 6 σ N 75 [(0, .ref x0), (1, .int x1), (2, .int x2)] [] := by
  unfold jX7_makeResults_75_L2 at hf
  refine z_iinc (lv2 := [(2, .int (x2 + (zi 4))), (0, .ref x0), (1, .int x1)]) C (x2 + (zi 4)) dX7_makeResults_75 2 rfl rfl (by decide) rfl ?_
  refine z_goto C 2 dX7_makeResults_78 (by decide) ?_
  cases hf
  refine z_sub [1, 2, 0] rfl ?_
  exact hk.1 _ rfl

set_option maxRecDepth 100000 in
set_option maxHeartbeats 4000000 in
theorem wsX7_makeResults_2b (C : zC p s m args meth c cX7_makeResults RX7 6 D Ca B En) (hRm : zRm R 1 21 cells slots) (x0 : Nat) (x1 : Int32) (σ : zS) (u2 : Int32) (y : (zS × Int32) ⊕ zS) (hf : sX7_makeResults_2b x0 x1 σ u2 = some y) (hk : (∀ z : (zS × Int32), y = .inl z → zW p l e R s m args below meth c cells slots Q D Ca B 6 z.1 N 2 [(0, .ref x0), (1, .int x1), (2, .int z.2)] []) ∧ (∀ z : zS, y = .inr z → zW p l e R s m args below meth c cells slots Q D Ca B 6 z N 81 [] [])) : zW p l e R s m args below meth c cells slots Q D Ca B 6 σ N 2 [(0, .ref x0), (1, .int x1), (2, .int u2)] [] := by
  unfold sX7_makeResults_2b at hf
  refine z_iload_n C dX7_makeResults_2 rfl 2 rfl ?_
  refine z_bipush C (zi 16) dX7_makeResults_3 (by decide) ?_
  refine z_icmp_ge C 81 dX7_makeResults_5 (by decide) (fun q14 => ?_) (fun q14 => ?_)
  · rw [if_pos q14] at hf
    cases hf
    refine z_sub [] rfl ?_
    exact hk.2 _ rfl
  · rw [if_neg q14] at hf
    refine z_iconst C (zi 0) dX7_makeResults_8 (by decide) ?_
    refine z_istore_n (lv2 := [(3, .int ((zi 0))), (0, .ref x0), (1, .int x1), (2, .int u2)]) C dX7_makeResults_9 rfl (by decide) rfl ?_
    refine z_iconst C (zi 0) dX7_makeResults_10 (by decide) ?_
    refine z_istore (lv2 := [(4, .int ((zi 0))), (3, .int ((zi 0))), (0, .ref x0), (1, .int x1), (2, .int u2)]) C dX7_makeResults_11 (by decide) rfl ?_
    obtain ⟨o13, ho13, hf⟩ := zbind hf
    refine z_sub [2, 3, 4, 1, 0] rfl ?_
    refine wsX7_makeResults_13 C hRm _ _ _ zfuel (σ, (zi 0), (zi 0)) o13 ho13 ?_
    intro z9 e9
    subst e9
    refine z_sub [0, 1, 2] rfl ?_
    exact wjX7_makeResults_75_L2 C hRm _ _ _ _  _ hf hk

theorem wsX7_makeResults_2 (C : zC p s m args meth c cX7_makeResults RX7 6 D Ca B En) (hRm : zRm R 1 21 cells slots) (x0 : Nat) (x1 : Int32) (n : Nat) (z : (zS × Int32)) (x : zS) (hf : zloop (sX7_makeResults_2 x0 x1) n z = some x) (hk : (∀ o : zS, x = o → zW p l e R s m args below meth c cells slots Q D Ca B 6 o N 81 [] [])) : zW p l e R s m args below meth c cells slots Q D Ca B 6 z.1 N 2 [(0, .ref x0), (1, .int x1), (2, .int z.2)] [] := by
  refine zloop_W (P := fun z : (zS × Int32) => zW p l e R s m args below meth c cells slots Q D Ca B 6 z.1 N 2 [(0, .ref x0), (1, .int x1), (2, .int z.2)] []) (K := fun x : zS => (∀ o : zS, x = o → zW p l e R s m args below meth c cells slots Q D Ca B 6 o N 81 [] [])) ?_ n z x hf hk
  intro z y hy h1 h2
  refine wsX7_makeResults_2b C hRm x0 x1 z.1 z.2 y hy ⟨fun z2 e => h1 z2 e, fun o e => (h2 _ e) o rfl⟩
set_option maxRecDepth 100000 in
set_option maxHeartbeats 4000000 in
theorem wfX7_makeResults (C : zC p s m args meth c cX7_makeResults RX7 6 D Ca B En) (hRm : zRm R 1 21 cells slots) (σ : zS) (x0 : Nat) (x1 : Int32) (τ : zS) (hf : fX7_makeResults σ x0 x1 = some τ) (hq : ∀ (pc : Nat) (lv : List (Nat × Value)), decode cX7_makeResults pc = .ok (.return_, 1) → zW p l e R s m args below meth c cells slots Q D Ca B 6 τ N pc lv []) : zW p l e R s m args below meth c cells slots Q D Ca B 6 σ N 0 [(0, .ref x0), (1, .int x1)] [] := by
  unfold fX7_makeResults at hf
  refine z_iload_n C dX7_makeResults_0 rfl 1 rfl ?_
  refine z_istore_n (lv2 := [(2, .int x1), (0, .ref x0), (1, .int x1)]) C dX7_makeResults_1 rfl (by decide) rfl ?_
  obtain ⟨o15, ho15, hf⟩ := zbind hf
  refine z_sub [1, 2, 0] rfl ?_
  refine wsX7_makeResults_2 C hRm _ _ zfuel (σ, x1) o15 ho15 ?_
  intro z9 e9
  subst e9
  cases hf
  exact hq _ _ dX7_makeResults_81

theorem mX7_makeResults (l : Launch) (D : va_G) (Ca : Nat → ClassId) (B : Nat) (En : State → Prop) (hE : zEk B En) (σ : zS) (N : Nat) (x0 : Nat) (x1 : Int32) (X : zS) (hf : fX7_makeResults σ x0 x1 = some X) : zMv l D Ca B En yX7_makeResults cX7_makeResults 6 (Option.none : Option Jvm.ClassFile.FieldType) 1 21 [.ref x0, .int x1] σ N X () :=
  zMet_v (own := RX7) hE (by decide +kernel) rfl (Nat.le_of_ble_eq_true rfl) (fun p e s m args below meth c C hr hRm => wfX7_makeResults C hRm σ x0 x1 X hf (fun pc lv hd => zfin_v (r := ()) C hr hd))
theorem dX7_finish_0 : decode cX7_finish 0 = .ok (.aload_n 0, 1) := by decide +kernel
theorem dX7_finish_1 : decode cX7_finish 1 = .ok (.aload_n 0, 1) := by decide +kernel
theorem dX7_finish_2 : decode cX7_finish 2 = .ok (.getstatic 54, 3) := by decide +kernel
theorem dX7_finish_5 : decode cX7_finish 5 = .ok (.invokevirtual 60, 3) := by decide +kernel
theorem dX7_finish_8 : decode cX7_finish 8 = .ok (.putfield 64, 3) := by decide +kernel
theorem dX7_finish_11 : decode cX7_finish 11 = .ok (.iconst 0, 1) := by decide +kernel
theorem dX7_finish_12 : decode cX7_finish 12 = .ok (.istore_n 1, 1) := by decide +kernel
theorem dX7_finish_13 : decode cX7_finish 13 = .ok (.iload_n 1, 1) := by decide +kernel
theorem dX7_finish_14 : decode cX7_finish 14 = .ok (.aload_n 0, 1) := by decide +kernel
theorem dX7_finish_15 : decode cX7_finish 15 = .ok (.getfield 40, 3) := by decide +kernel
theorem dX7_finish_18 : decode cX7_finish 18 = .ok (.if_icmp .ge 19, 3) := by decide +kernel
theorem dX7_finish_21 : decode cX7_finish 21 = .ok (.aload_n 0, 1) := by decide +kernel
theorem dX7_finish_22 : decode cX7_finish 22 = .ok (.iload_n 1, 1) := by decide +kernel
theorem dX7_finish_23 : decode cX7_finish 23 = .ok (.invokevirtual 67, 3) := by decide +kernel
theorem dX7_finish_26 : decode cX7_finish 26 = .ok (.aload_n 0, 1) := by decide +kernel
theorem dX7_finish_27 : decode cX7_finish 27 = .ok (.iload_n 1, 1) := by decide +kernel
theorem dX7_finish_28 : decode cX7_finish 28 = .ok (.invokevirtual 71, 3) := by decide +kernel
theorem dX7_finish_31 : decode cX7_finish 31 = .ok (.iinc 1 1, 3) := by decide +kernel
theorem dX7_finish_34 : decode cX7_finish 34 = .ok (.goto (-21), 3) := by decide +kernel
theorem dX7_finish_37 : decode cX7_finish 37 = .ok (.return_, 1) := by decide +kernel
theorem hyX7_finish : yX7_finish.cls ≠ "java/lang/invoke/MethodHandle" ∧ yX7_finish.cls ≠ "java/lang/invoke/VarHandle" ∧ (parseMethodDescriptor yX7_finish.desc).map (fun d => d.parameters.length) = some 0 := ⟨by decide +kernel, by decide +kernel, by decide +kernel⟩
set_option maxRecDepth 100000 in
set_option maxHeartbeats 4000000 in
theorem wsX7_finish_13b (C : zC p s m args meth c cX7_finish RX7 2 D Ca B En) (hRm : zRm R 2 46 cells slots) (ev : zEv) (hZ : ∀ U : State, En U → zEnv ev B U) (x0 : Nat) (σ : zS) (u1 : Int32) (y : (zS × Int32) ⊕ zS) (hf : sX7_finish_13b x0 σ u1 = some y) (hk : (∀ z : (zS × Int32), y = .inl z → zW p l e R s m args below meth c cells slots Q D Ca B 2 z.1 N 13 [(0, .ref x0), (1, .int z.2)] []) ∧ (∀ z : zS, y = .inr z → zW p l e R s m args below meth c cells slots Q D Ca B 2 z N 37 [] [])) : zW p l e R s m args below meth c cells slots Q D Ca B 2 σ N 13 [(0, .ref x0), (1, .int u1)] [] := by
  unfold sX7_finish_13b at hf
  refine z_iload_n C dX7_finish_13 rfl 1 rfl ?_
  refine z_aload_n C dX7_finish_14 rfl 0 rfl ?_
  obtain ⟨v3, hv3, hf⟩ := zbind hf
  refine gf_RX7_40 C hv3 dX7_finish_15 ?_
  refine z_icmp_ge C 37 dX7_finish_18 (by decide) (fun q6 => ?_) (fun q6 => ?_)
  · rw [if_pos q6] at hf
    cases hf
    refine z_sub [] rfl ?_
    exact hk.2 _ rfl
  · rw [if_neg q6] at hf
    refine z_aload_n C dX7_finish_21 rfl 0 rfl ?_
    refine z_iload_n C dX7_finish_22 rfl 1 rfl ?_
    obtain ⟨c4, hc4, hf⟩ := zbind hf
    obtain ⟨kc4, hc4⟩ := zck_ok hc4
    refine z_callVv (As := [.int u1]) (F0 := 2) (L0 := 46) C (mX7_makeRecords l D Ca B En C.2.2.2.2.2.2.2.1 σ N x0 u1 _ hc4) hRm kc4 rfl kw_179 kw_5 kw_176 kw_178 kp_0 hyX7_makeRecords (Nat.le_of_ble_eq_true rfl) (Nat.le_of_ble_eq_true rfl) rfl rfl (Nat.le_of_ble_eq_true rfl) dX7_finish_23 ?_
    refine z_aload_n C dX7_finish_26 rfl 0 rfl ?_
    refine z_iload_n C dX7_finish_27 rfl 1 rfl ?_
    obtain ⟨c5, hc5, hf⟩ := zbind hf
    obtain ⟨kc5, hc5⟩ := zck_ok hc5
    refine z_callVv (As := [.int u1]) (F0 := 2) (L0 := 46) C (mX7_makeResults l D Ca B En C.2.2.2.2.2.2.2.1 c4 N x0 u1 _ hc5) hRm kc5 rfl kw_186 kw_5 kw_183 kw_185 kp_1 hyX7_makeResults (Nat.le_of_ble_eq_true rfl) (Nat.le_of_ble_eq_true rfl) rfl rfl (Nat.le_of_ble_eq_true rfl) dX7_finish_28 ?_
    refine z_iinc (lv2 := [(1, .int (u1 + (zi 1))), (0, .ref x0)]) C (u1 + (zi 1)) dX7_finish_31 1 rfl rfl (by decide) rfl ?_
    refine z_goto C 13 dX7_finish_34 (by decide) ?_
    cases hf
    refine z_sub [1, 0] rfl ?_
    exact hk.1 _ rfl

theorem wsX7_finish_13 (C : zC p s m args meth c cX7_finish RX7 2 D Ca B En) (hRm : zRm R 2 46 cells slots) (ev : zEv) (hZ : ∀ U : State, En U → zEnv ev B U) (x0 : Nat) (n : Nat) (z : (zS × Int32)) (x : zS) (hf : zloop (sX7_finish_13 x0) n z = some x) (hk : (∀ o : zS, x = o → zW p l e R s m args below meth c cells slots Q D Ca B 2 o N 37 [] [])) : zW p l e R s m args below meth c cells slots Q D Ca B 2 z.1 N 13 [(0, .ref x0), (1, .int z.2)] [] := by
  refine zloop_W (P := fun z : (zS × Int32) => zW p l e R s m args below meth c cells slots Q D Ca B 2 z.1 N 13 [(0, .ref x0), (1, .int z.2)] []) (K := fun x : zS => (∀ o : zS, x = o → zW p l e R s m args below meth c cells slots Q D Ca B 2 o N 37 [] [])) ?_ n z x hf hk
  intro z y hy h1 h2
  refine wsX7_finish_13b C hRm ev hZ x0 z.1 z.2 y hy ⟨fun z2 e => h1 z2 e, fun o e => (h2 _ e) o rfl⟩
set_option maxRecDepth 100000 in
set_option maxHeartbeats 4000000 in
theorem wfX7_finish (C : zC p s m args meth c cX7_finish RX7 2 D Ca B En) (hRm : zRm R 2 46 cells slots) (ev : zEv) (hZ : ∀ U : State, En U → zEnv ev B U) (σ : zS) (x0 : Nat) (τ : zS) (hf : fX7_finish σ x0 = some τ) (hq : ∀ (pc : Nat) (lv : List (Nat × Value)), decode cX7_finish pc = .ok (.return_, 1) → zW p l e R s m args below meth c cells slots Q D Ca B 2 τ N pc lv []) : zW p l e R s m args below meth c cells slots Q D Ca B 2 σ N 0 [(0, .ref x0)] [] := by
  unfold fX7_finish at hf
  refine z_aload_n C dX7_finish_0 rfl 0 rfl ?_
  refine z_aload_n C dX7_finish_1 rfl 0 rfl ?_
  refine z_gsW C ev hZ 5 (by decide) rfl kw_170 dX7_finish_2 ?_
  obtain ⟨c1, hc1, hf⟩ := zbind hf
  obtain ⟨kc1, hc1⟩ := zck_ok hc1
  refine z_callVi (As := [.ref (ev.1 5)]) (F0 := 2) (L0 := 46) C (mX7_chosen l D Ca B En C.2.2.2.2.2.2.2.1 ev hZ σ N x0 5 _ hc1) hRm kc1 rfl kw_175 kw_5 kw_172 kw_173 kw_174 hyX7_chosen (Nat.le_of_ble_eq_true rfl) (Nat.le_of_ble_eq_true rfl) rfl rfl (Nat.le_of_ble_eq_true rfl) dX7_finish_5 ?_
  obtain ⟨σ2, hσ2, hf⟩ := zbind hf
  refine gp_RX7_64 C hσ2 dX7_finish_8 ?_
  refine z_iconst C (zi 0) dX7_finish_11 (by decide) ?_
  refine z_istore_n (lv2 := [(1, .int ((zi 0))), (0, .ref x0)]) C dX7_finish_12 rfl (by decide) rfl ?_
  obtain ⟨o7, ho7, hf⟩ := zbind hf
  refine z_sub [1, 0] rfl ?_
  refine wsX7_finish_13 C hRm ev hZ _ zfuel (σ2, (zi 0)) o7 ho7 ?_
  intro z9 e9
  subst e9
  cases hf
  exact hq _ _ dX7_finish_37

theorem mX7_finish (l : Launch) (D : va_G) (Ca : Nat → ClassId) (B : Nat) (En : State → Prop) (hE : zEk B En) (ev : zEv) (hZ : ∀ U : State, En U → zEnv ev B U) (σ : zS) (N : Nat) (x0 : Nat) (X : zS) (hf : fX7_finish σ x0 = some X) : zMv l D Ca B En yX7_finish cX7_finish 2 (Option.none : Option Jvm.ClassFile.FieldType) 2 46 [.ref x0] σ N X () :=
  zMet_v (own := RX7) hE (by decide +kernel) rfl (Nat.le_of_ble_eq_true rfl) (fun p e s m args below meth c C hr hRm => wfX7_finish C hRm ev hZ σ x0 X hf (fun pc lv hd => zfin_v (r := ()) C hr hd))
theorem dX5_read_0 : decode cX5_read 0 = .ok (.aload_n 0, 1) := by decide +kernel
theorem dX5_read_1 : decode cX5_read 1 = .ok (.aload_n 1, 1) := by decide +kernel
theorem dX5_read_2 : decode cX5_read 2 = .ok (.putfield 19, 3) := by decide +kernel
theorem dX5_read_5 : decode cX5_read 5 = .ok (.aload_n 0, 1) := by decide +kernel
theorem dX5_read_6 : decode cX5_read 6 = .ok (.getfield 19, 3) := by decide +kernel
theorem dX5_read_9 : decode cX5_read 9 = .ok (.invokevirtual 23, 3) := by decide +kernel
theorem dX5_read_12 : decode cX5_read 12 = .ok (.aload_n 0, 1) := by decide +kernel
theorem dX5_read_13 : decode cX5_read 13 = .ok (.iconst 0, 1) := by decide +kernel
theorem dX5_read_14 : decode cX5_read 14 = .ok (.putfield 28, 3) := by decide +kernel
theorem dX5_read_17 : decode cX5_read 17 = .ok (.aload_n 0, 1) := by decide +kernel
theorem dX5_read_18 : decode cX5_read 18 = .ok (.iconst (-1), 1) := by decide +kernel
theorem dX5_read_19 : decode cX5_read 19 = .ok (.putfield 9, 3) := by decide +kernel
theorem dX5_read_22 : decode cX5_read 22 = .ok (.aload_n 0, 1) := by decide +kernel
theorem dX5_read_23 : decode cX5_read 23 = .ok (.iconst 0, 1) := by decide +kernel
theorem dX5_read_24 : decode cX5_read 24 = .ok (.putfield 31, 3) := by decide +kernel
theorem dX5_read_27 : decode cX5_read 27 = .ok (.aload_n 0, 1) := by decide +kernel
theorem dX5_read_28 : decode cX5_read 28 = .ok (.invokevirtual 34, 3) := by decide +kernel
theorem dX5_read_31 : decode cX5_read 31 = .ok (.iconst 0, 1) := by decide +kernel
theorem dX5_read_32 : decode cX5_read 32 = .ok (.istore_n 2, 1) := by decide +kernel
theorem dX5_read_33 : decode cX5_read 33 = .ok (.iload_n 2, 1) := by decide +kernel
theorem dX5_read_34 : decode cX5_read 34 = .ok (.sipush 300, 3) := by decide +kernel
theorem dX5_read_37 : decode cX5_read 37 = .ok (.if_icmp .ge 25, 3) := by decide +kernel
theorem dX5_read_40 : decode cX5_read 40 = .ok (.aload_n 0, 1) := by decide +kernel
theorem dX5_read_41 : decode cX5_read 41 = .ok (.getfield 37, 3) := by decide +kernel
theorem dX5_read_44 : decode cX5_read 44 = .ok (.ifCond .eq 18, 3) := by decide +kernel
theorem dX5_read_47 : decode cX5_read 47 = .ok (.aload_n 0, 1) := by decide +kernel
theorem dX5_read_48 : decode cX5_read 48 = .ok (.invokevirtual 40, 3) := by decide +kernel
theorem dX5_read_51 : decode cX5_read 51 = .ok (.ifCond .ne 5, 3) := by decide +kernel
theorem dX5_read_54 : decode cX5_read 54 = .ok (.iconst 0, 1) := by decide +kernel
theorem dX5_read_55 : decode cX5_read 55 = .ok (.ireturn, 1) := by decide +kernel
theorem dX5_read_56 : decode cX5_read 56 = .ok (.iinc 2 1, 3) := by decide +kernel
theorem dX5_read_59 : decode cX5_read 59 = .ok (.goto (-26), 3) := by decide +kernel
theorem dX5_read_62 : decode cX5_read 62 = .ok (.aload_n 0, 1) := by decide +kernel
theorem dX5_read_63 : decode cX5_read 63 = .ok (.getfield 19, 3) := by decide +kernel
theorem dX5_read_66 : decode cX5_read 66 = .ok (.getfield 44, 3) := by decide +kernel
theorem dX5_read_69 : decode cX5_read 69 = .ok (.ifCond .ne 9, 3) := by decide +kernel
theorem dX5_read_72 : decode cX5_read 72 = .ok (.aload_n 0, 1) := by decide +kernel
theorem dX5_read_73 : decode cX5_read 73 = .ok (.iconst 5, 1) := by decide +kernel
theorem dX5_read_74 : decode cX5_read 74 = .ok (.invokevirtual 47, 3) := by decide +kernel
theorem dX5_read_77 : decode cX5_read 77 = .ok (.ireturn, 1) := by decide +kernel
theorem dX5_read_78 : decode cX5_read 78 = .ok (.aload_n 0, 1) := by decide +kernel
theorem dX5_read_79 : decode cX5_read 79 = .ok (.getfield 19, 3) := by decide +kernel
theorem dX5_read_82 : decode cX5_read 82 = .ok (.invokevirtual 51, 3) := by decide +kernel
theorem dX5_read_85 : decode cX5_read 85 = .ok (.iconst 1, 1) := by decide +kernel
theorem dX5_read_86 : decode cX5_read 86 = .ok (.ireturn, 1) := by decide +kernel
theorem hyX5_read : yX5_read.cls ≠ "java/lang/invoke/MethodHandle" ∧ yX5_read.cls ≠ "java/lang/invoke/VarHandle" ∧ (parseMethodDescriptor yX5_read.desc).map (fun d => d.parameters.length) = some 1 := ⟨by decide +kernel, by decide +kernel, by decide +kernel⟩
set_option maxRecDepth 100000 in
set_option maxHeartbeats 4000000 in
theorem wsX5_read_33b (C : zC p s m args meth c cX5_read RX5 3 D Ca B En) (hRm : zRm R 9 194 cells slots) (ev : zEv) (hZ : ∀ U : State, En U → zEnv ev B U) (x0 : Nat) (σ : zS) (u2 : Int32) (y : (zS × Int32) ⊕ (zS ⊕ zS)) (hf : sX5_read_33b x0 σ u2 = some y) (hk : (∀ z : (zS × Int32), y = .inl z → zW p l e R s m args below meth c cells slots Q D Ca B 3 z.1 N 33 [(0, .ref x0), (2, .int z.2)] []) ∧ (∀ z : zS, y = .inr (.inl z) → zW p l e R s m args below meth c cells slots Q D Ca B 3 z N 54 [] []) ∧ (∀ z : zS, y = .inr (.inr z) → zW p l e R s m args below meth c cells slots Q D Ca B 3 z N 62 [(0, .ref x0)] [])) : zW p l e R s m args below meth c cells slots Q D Ca B 3 σ N 33 [(0, .ref x0), (2, .int u2)] [] := by
  unfold sX5_read_33b at hf
  refine z_iload_n C dX5_read_33 rfl 1 rfl ?_
  refine z_sipush C (zi 300) dX5_read_34 (by decide) ?_
  refine z_icmp_ge C 62 dX5_read_37 (by decide) (fun q12 => ?_) (fun q12 => ?_)
  · rw [if_pos q12] at hf
    cases hf
    refine z_sub [0] rfl ?_
    exact hk.2.2 _ rfl
  · rw [if_neg q12] at hf
    refine z_aload_n C dX5_read_40 rfl 0 rfl ?_
    obtain ⟨v8, hv8, hf⟩ := zbind hf
    refine gf_RX5_37 C hv8 dX5_read_41 ?_
    refine z_if_eq C 62 dX5_read_44 (by decide) (fun q11 => ?_) (fun q11 => ?_)
    · rw [if_pos q11] at hf
      cases hf
      refine z_sub [0] rfl ?_
      exact hk.2.2 _ rfl
    · rw [if_neg q11] at hf
      refine z_aload_n C dX5_read_47 rfl 0 rfl ?_
      obtain ⟨c9, hc9, hf⟩ := zbind hf
      obtain ⟨kc9, hc9⟩ := zck_ok hc9
      refine z_callVi (As := []) (F0 := 9) (L0 := 194) C (mX5_readStatement l D Ca B En C.2.2.2.2.2.2.2.1 ev hZ σ N x0  _ hc9) hRm kc9 rfl kw_876 kw_3 kw_873 kw_875 kp_21 hyX5_readStatement (Nat.le_of_ble_eq_true rfl) (Nat.le_of_ble_eq_true rfl) rfl rfl (Nat.le_of_ble_eq_true rfl) dX5_read_48 ?_
      refine z_if_ne C 56 dX5_read_51 (by decide) (fun q10 => ?_) (fun q10 => ?_)
      · rw [if_neg q10] at hf
        refine z_iinc (lv2 := [(2, .int (u2 + (zi 1))), (0, .ref x0)]) C (u2 + (zi 1)) dX5_read_56 1 rfl rfl (by decide) rfl ?_
        refine z_goto C 33 dX5_read_59 (by decide) ?_
        cases hf
        refine z_sub [1, 0] rfl ?_
        exact hk.1 _ rfl
      · rw [if_pos q10] at hf
        cases hf
        refine z_sub [] rfl ?_
        exact hk.2.1 _ rfl

theorem wsX5_read_33 (C : zC p s m args meth c cX5_read RX5 3 D Ca B En) (hRm : zRm R 9 194 cells slots) (ev : zEv) (hZ : ∀ U : State, En U → zEnv ev B U) (x0 : Nat) (n : Nat) (z : (zS × Int32)) (x : (zS ⊕ zS)) (hf : zloop (sX5_read_33 x0) n z = some x) (hk : (∀ o : zS, x = (.inl o) → zW p l e R s m args below meth c cells slots Q D Ca B 3 o N 54 [] []) ∧ (∀ o : zS, x = (.inr o) → zW p l e R s m args below meth c cells slots Q D Ca B 3 o N 62 [(0, .ref x0)] [])) : zW p l e R s m args below meth c cells slots Q D Ca B 3 z.1 N 33 [(0, .ref x0), (2, .int z.2)] [] := by
  refine zloop_W (P := fun z : (zS × Int32) => zW p l e R s m args below meth c cells slots Q D Ca B 3 z.1 N 33 [(0, .ref x0), (2, .int z.2)] []) (K := fun x : (zS ⊕ zS) => (∀ o : zS, x = (.inl o) → zW p l e R s m args below meth c cells slots Q D Ca B 3 o N 54 [] []) ∧ (∀ o : zS, x = (.inr o) → zW p l e R s m args below meth c cells slots Q D Ca B 3 o N 62 [(0, .ref x0)] [])) ?_ n z x hf hk
  intro z y hy h1 h2
  refine wsX5_read_33b C hRm ev hZ x0 z.1 z.2 y hy ⟨fun z2 e => h1 z2 e, fun o e => (h2 _ e).1 o rfl, fun o e => (h2 _ e).2 o rfl⟩
set_option maxRecDepth 100000 in
set_option maxHeartbeats 4000000 in
theorem wjX5_read_62 (C : zC p s m args meth c cX5_read RX5 3 D Ca B En) (hRm : zRm R 9 194 cells slots) (ev : zEv) (hZ : ∀ U : State, En U → zEnv ev B U) (σ : zS) (x0 : Nat)  (τ : zS) (r : Int32) (hf : jX5_read_62 σ x0  = some (τ, r)) (hq : ∀ (pc : Nat) (lv : List (Nat × Value)), (r = 0 ∨ r = 1) → decode cX5_read pc = .ok (.ireturn, 1) → zW p l e R s m args below meth c cells slots Q D Ca B 3 τ N pc lv [.int r]) : zW p l e R s m args below meth c cells slots Q D Ca B 3 σ N 62 [(0, .ref x0)] [] := by
  unfold jX5_read_62 at hf
  refine z_aload_n C dX5_read_62 rfl 0 rfl ?_
  obtain ⟨v16, hv16, hf⟩ := zbind hf
  refine gf_RX5_19 C hv16 dX5_read_63 ?_
  obtain ⟨v17, hv17, hf⟩ := zbind hf
  refine gf_RX5_44 C hv17 dX5_read_66 ?_
  refine z_if_ne C 78 dX5_read_69 (by decide) (fun q21 => ?_) (fun q21 => ?_)
  · rw [if_neg q21] at hf
    refine z_aload_n C dX5_read_78 rfl 0 rfl ?_
    obtain ⟨v18, hv18, hf⟩ := zbind hf
    refine gf_RX5_19 C hv18 dX5_read_79 ?_
    obtain ⟨c19, hc19, hf⟩ := zbind hf
    obtain ⟨kc19, hc19⟩ := zck_ok hc19
    refine z_callVv (As := []) (F0 := 9) (L0 := 194) C (mX7_finish l D Ca B En C.2.2.2.2.2.2.2.1 ev hZ σ N v18  _ hc19) hRm kc19 rfl kw_169 kw_5 kw_939 kw_167 kw_168 hyX7_finish (Nat.le_of_ble_eq_true rfl) (Nat.le_of_ble_eq_true rfl) rfl rfl (Nat.le_of_ble_eq_true rfl) dX5_read_82 ?_
    refine z_iconst C (zi 1) dX5_read_85 (by decide) ?_
    obtain ⟨e9, b9⟩ := zrZ_ok hf
    cases e9
    exact hq _ _ b9 dX5_read_86
  · rw [if_pos q21] at hf
    refine z_aload_n C dX5_read_72 rfl 0 rfl ?_
    refine z_iconst C (zi 5) dX5_read_73 (by decide) ?_
    obtain ⟨c20, hc20, hf⟩ := zbind hf
    obtain ⟨kc20, hc20⟩ := zck_ok hc20
    refine z_callVi (As := [.int ((zi 5))]) (F0 := 9) (L0 := 194) C (mX5_refuse l D Ca B En C.2.2.2.2.2.2.2.1 σ N x0 ((zi 5)) _ hc20) hRm kc20 rfl kw_898 kw_3 kw_895 kw_897 kp_25 hyX5_refuse (Nat.le_of_ble_eq_true rfl) (Nat.le_of_ble_eq_true rfl) rfl rfl (Nat.le_of_ble_eq_true rfl) dX5_read_74 ?_
    obtain ⟨e9, b9⟩ := zrZ_ok hf
    cases e9
    exact hq _ _ b9 dX5_read_77

set_option maxRecDepth 100000 in
set_option maxHeartbeats 4000000 in
theorem wfX5_read (C : zC p s m args meth c cX5_read RX5 3 D Ca B En) (hRm : zRm R 9 194 cells slots) (ev : zEv) (hZ : ∀ U : State, En U → zEnv ev B U) (σ : zS) (x0 : Nat) (x1 : Nat) (τ : zS) (r : Int32) (hf : fX5_read σ x0 x1 = some (τ, r)) (hq : ∀ (pc : Nat) (lv : List (Nat × Value)), (r = 0 ∨ r = 1) → decode cX5_read pc = .ok (.ireturn, 1) → zW p l e R s m args below meth c cells slots Q D Ca B 3 τ N pc lv [.int r]) : zW p l e R s m args below meth c cells slots Q D Ca B 3 σ N 0 [(0, .ref x0), (1, .ref x1)] [] := by
  unfold fX5_read at hf
  refine z_aload_n C dX5_read_0 rfl 0 rfl ?_
  refine z_aload_n C dX5_read_1 rfl 1 rfl ?_
  obtain ⟨σ1, hσ1, hf⟩ := zbind hf
  refine gp_RX5_19 C hσ1 dX5_read_2 ?_
  refine z_aload_n C dX5_read_5 rfl 0 rfl ?_
  obtain ⟨v2, hv2, hf⟩ := zbind hf
  refine gf_RX5_19 C hv2 dX5_read_6 ?_
  obtain ⟨c3, hc3, hf⟩ := zbind hf
  obtain ⟨kc3, hc3⟩ := zck_ok hc3
  refine z_callVv (As := []) (F0 := 9) (L0 := 194) C (mX7_clear l D Ca B En C.2.2.2.2.2.2.2.1 σ1 N v2  _ hc3) hRm kc3 rfl kw_162 kw_5 kw_860 kw_160 kw_161 hyX7_clear (Nat.le_of_ble_eq_true rfl) (Nat.le_of_ble_eq_true rfl) rfl rfl (Nat.le_of_ble_eq_true rfl) dX5_read_9 ?_
  refine z_aload_n C dX5_read_12 rfl 0 rfl ?_
  refine z_iconst C (zi 0) dX5_read_13 (by decide) ?_
  obtain ⟨σ4, hσ4, hf⟩ := zbind hf
  refine gp_RX5_28 C hσ4 dX5_read_14 ?_
  refine z_aload_n C dX5_read_17 rfl 0 rfl ?_
  refine z_iconst C (zi (-1)) dX5_read_18 (by decide) ?_
  obtain ⟨σ5, hσ5, hf⟩ := zbind hf
  refine gp_RX5_9 C hσ5 dX5_read_19 ?_
  refine z_aload_n C dX5_read_22 rfl 0 rfl ?_
  refine z_iconst C (zi 0) dX5_read_23 (by decide) ?_
  obtain ⟨σ6, hσ6, hf⟩ := zbind hf
  refine gp_RX5_31 C hσ6 dX5_read_24 ?_
  refine z_aload_n C dX5_read_27 rfl 0 rfl ?_
  obtain ⟨c7, hc7, hf⟩ := zbind hf
  obtain ⟨kc7, hc7⟩ := zck_ok hc7
  refine z_callVv (As := []) (F0 := 9) (L0 := 194) C (mX5_advance l D Ca B En C.2.2.2.2.2.2.2.1 σ6 N x0  _ hc7) hRm kc7 rfl kw_864 kw_3 kw_861 kw_863 kp_19 hyX5_advance (Nat.le_of_ble_eq_true rfl) (Nat.le_of_ble_eq_true rfl) rfl rfl (Nat.le_of_ble_eq_true rfl) dX5_read_28 ?_
  refine z_iconst C (zi 0) dX5_read_31 (by decide) ?_
  refine z_istore_n (lv2 := [(2, .int ((zi 0))), (0, .ref x0), (1, .ref x1)]) C dX5_read_32 rfl (by decide) rfl ?_
  obtain ⟨o13, ho13, hf⟩ := zbind hf
  refine z_sub [1, 0] rfl ?_
  refine wsX5_read_33 C hRm ev hZ _ zfuel (c7, (zi 0)) o13 ho13 ⟨?_, ?_⟩
  · intro z14 e9
    subst e9
    dsimp only at hf
    refine z_iconst C (zi 0) dX5_read_54 (by decide) ?_
    obtain ⟨e9, b9⟩ := zrZ_ok hf
    cases e9
    exact hq _ _ b9 dX5_read_55
  · intro z15 e9
    subst e9
    dsimp only at hf
    refine z_sub [0] rfl ?_
    exact wjX5_read_62 C hRm ev hZ _ _  _ _ hf hq

theorem mX5_read (l : Launch) (D : va_G) (Ca : Nat → ClassId) (B : Nat) (En : State → Prop) (hE : zEk B En) (ev : zEv) (hZ : ∀ U : State, En U → zEnv ev B U) (σ : zS) (N : Nat) (x0 : Nat) (x1 : Nat) (X : zS × Int32) (hf : fX5_read σ x0 x1 = some X) : zMi l D Ca B En yX5_read cX5_read 3 (Option.some Jvm.ClassFile.FieldType.boolean) 9 194 [.ref x0, .ref x1] σ N X.1 X.2 :=
  zMet_i (own := RX5) hE (by decide +kernel) rfl (Nat.le_of_ble_eq_true rfl) (fun p e s m args below meth c C hr hRm => wfX5_read C hRm ev hZ σ x0 x1 X.1 X.2 hf (fun pc lv hb hd => zfin_z C hb hr hd))
theorem dX6_forget_0 : decode cX6_forget 0 = .ok (.aload_n 0, 1) := by decide +kernel
theorem dX6_forget_1 : decode cX6_forget 1 = .ok (.iconst 0, 1) := by decide +kernel
theorem dX6_forget_2 : decode cX6_forget 2 = .ok (.putfield 20, 3) := by decide +kernel
theorem dX6_forget_5 : decode cX6_forget 5 = .ok (.return_, 1) := by decide +kernel
theorem hyX6_forget : yX6_forget.cls ≠ "java/lang/invoke/MethodHandle" ∧ yX6_forget.cls ≠ "java/lang/invoke/VarHandle" ∧ (parseMethodDescriptor yX6_forget.desc).map (fun d => d.parameters.length) = some 0 := ⟨by decide +kernel, by decide +kernel, by decide +kernel⟩
set_option maxRecDepth 100000 in
set_option maxHeartbeats 4000000 in
theorem wfX6_forget (C : zC p s m args meth c cX6_forget RX6 1 D Ca B En) (hRm : zRm R 0 0 cells slots) (σ : zS) (x0 : Nat) (τ : zS) (hf : fX6_forget σ x0 = some τ) (hq : ∀ (pc : Nat) (lv : List (Nat × Value)), decode cX6_forget pc = .ok (.return_, 1) → zW p l e R s m args below meth c cells slots Q D Ca B 1 τ N pc lv []) : zW p l e R s m args below meth c cells slots Q D Ca B 1 σ N 0 [(0, .ref x0)] [] := by
  unfold fX6_forget at hf
  refine z_aload_n C dX6_forget_0 rfl 0 rfl ?_
  refine z_iconst C (zi 0) dX6_forget_1 (by decide) ?_
  obtain ⟨σ1, hσ1, hf⟩ := zbind hf
  refine gp_RX6_20 C hσ1 dX6_forget_2 ?_
  cases hf
  exact hq _ _ dX6_forget_5

theorem mX6_forget (l : Launch) (D : va_G) (Ca : Nat → ClassId) (B : Nat) (En : State → Prop) (hE : zEk B En) (σ : zS) (N : Nat) (x0 : Nat) (X : zS) (hf : fX6_forget σ x0 = some X) : zMv l D Ca B En yX6_forget cX6_forget 1 (Option.none : Option Jvm.ClassFile.FieldType) 0 0 [.ref x0] σ N X () :=
  zMet_v (own := RX6) hE (by decide +kernel) rfl (Nat.le_of_ble_eq_true rfl) (fun p e s m args below meth c C hr hRm => wfX6_forget C hRm σ x0 X hf (fun pc lv hd => zfin_v (r := ()) C hr hd))
theorem dX6_remember_0 : decode cX6_remember 0 = .ok (.aload_n 0, 1) := by decide +kernel
theorem dX6_remember_1 : decode cX6_remember 1 = .ok (.aload_n 0, 1) := by decide +kernel
theorem dX6_remember_2 : decode cX6_remember 2 = .ok (.getfield 24, 3) := by decide +kernel
theorem dX6_remember_5 : decode cX6_remember 5 = .ok (.iconst 1, 1) := by decide +kernel
theorem dX6_remember_6 : decode cX6_remember 6 = .ok (.iadd, 1) := by decide +kernel
theorem dX6_remember_7 : decode cX6_remember 7 = .ok (.bipush 6, 2) := by decide +kernel
theorem dX6_remember_9 : decode cX6_remember 9 = .ok (.if_icmp .ge 12, 3) := by decide +kernel
theorem dX6_remember_12 : decode cX6_remember 12 = .ok (.aload_n 0, 1) := by decide +kernel
theorem dX6_remember_13 : decode cX6_remember 13 = .ok (.getfield 24, 3) := by decide +kernel
theorem dX6_remember_16 : decode cX6_remember 16 = .ok (.iconst 1, 1) := by decide +kernel
theorem dX6_remember_17 : decode cX6_remember 17 = .ok (.iadd, 1) := by decide +kernel
theorem dX6_remember_18 : decode cX6_remember 18 = .ok (.goto 4, 3) := by decide +kernel
theorem dX6_remember_21 : decode cX6_remember 21 = .ok (.iconst 0, 1) := by decide +kernel
theorem dX6_remember_22 : decode cX6_remember 22 = .ok (.putfield 24, 3) := by decide +kernel
theorem dX6_remember_25 : decode cX6_remember 25 = .ok (.aload_n 0, 1) := by decide +kernel
theorem dX6_remember_26 : decode cX6_remember 26 = .ok (.aload_n 0, 1) := by decide +kernel
theorem dX6_remember_27 : decode cX6_remember 27 = .ok (.getfield 20, 3) := by decide +kernel
theorem dX6_remember_30 : decode cX6_remember 30 = .ok (.iconst 1, 1) := by decide +kernel
theorem dX6_remember_31 : decode cX6_remember 31 = .ok (.iadd, 1) := by decide +kernel
theorem dX6_remember_32 : decode cX6_remember 32 = .ok (.bipush 6, 2) := by decide +kernel
theorem dX6_remember_34 : decode cX6_remember 34 = .ok (.invokestatic 27, 3) := by decide +kernel
theorem dX6_remember_37 : decode cX6_remember 37 = .ok (.putfield 20, 3) := by decide +kernel
theorem dX6_remember_40 : decode cX6_remember 40 = .ok (.aload_n 0, 1) := by decide +kernel
theorem dX6_remember_41 : decode cX6_remember 41 = .ok (.getfield 11, 3) := by decide +kernel
theorem dX6_remember_44 : decode cX6_remember 44 = .ok (.aload_n 0, 1) := by decide +kernel
theorem dX6_remember_45 : decode cX6_remember 45 = .ok (.getfield 24, 3) := by decide +kernel
theorem dX6_remember_48 : decode cX6_remember 48 = .ok (.aaload, 1) := by decide +kernel
theorem dX6_remember_49 : decode cX6_remember 49 = .ok (.astore_n 2, 1) := by decide +kernel
theorem dX6_remember_50 : decode cX6_remember 50 = .ok (.aload_n 2, 1) := by decide +kernel
theorem dX6_remember_51 : decode cX6_remember 51 = .ok (.ifnull 8, 3) := by decide +kernel
theorem dX6_remember_54 : decode cX6_remember 54 = .ok (.aload_n 2, 1) := by decide +kernel
theorem dX6_remember_55 : decode cX6_remember 55 = .ok (.aload_n 1, 1) := by decide +kernel
theorem dX6_remember_56 : decode cX6_remember 56 = .ok (.invokevirtual 33, 3) := by decide +kernel
theorem dX6_remember_59 : decode cX6_remember 59 = .ok (.return_, 1) := by decide +kernel
theorem hyX6_remember : yX6_remember.cls ≠ "java/lang/invoke/MethodHandle" ∧ yX6_remember.cls ≠ "java/lang/invoke/VarHandle" ∧ (parseMethodDescriptor yX6_remember.desc).map (fun d => d.parameters.length) = some 1 := ⟨by decide +kernel, by decide +kernel, by decide +kernel⟩
set_option maxRecDepth 100000 in
set_option maxHeartbeats 4000000 in
theorem wjX6_remember_22 (C : zC p s m args meth c cX6_remember RX6 3 D Ca B En) (hRm : zRm R 5 148 cells slots) (σ : zS) (x0 : Nat) (x1 : Nat) (y0 : Int32) (y1 : Nat) (τ : zS) (hf : jX6_remember_22 σ x0 x1 y0 y1 = some τ) (hq : ∀ (pc : Nat) (lv : List (Nat × Value)), decode cX6_remember pc = .ok (.return_, 1) → zW p l e R s m args below meth c cells slots Q D Ca B 3 τ N pc lv []) : zW p l e R s m args below meth c cells slots Q D Ca B 3 σ N 22 [(0, .ref x0), (1, .ref x1)] [.int y0, .ref y1] := by
  unfold jX6_remember_22 at hf
  obtain ⟨σ2, hσ2, hf⟩ := zbind hf
  refine gp_RX6_24 C hσ2 dX6_remember_22 ?_
  refine z_aload_n C dX6_remember_25 rfl 0 rfl ?_
  refine z_aload_n C dX6_remember_26 rfl 0 rfl ?_
  obtain ⟨v3, hv3, hf⟩ := zbind hf
  refine gf_RX6_20 C hv3 dX6_remember_27 ?_
  refine z_iconst C (zi 1) dX6_remember_30 (by decide) ?_
  refine z_iadd C dX6_remember_31 ?_
  refine z_bipush C (zi 6) dX6_remember_32 (by decide) ?_
  refine z_mmin (FR := 5) (LR := 148) C hRm (Nat.le_of_ble_eq_true rfl) (Nat.le_of_ble_eq_true rfl) kw_589 kw_299 kw_11 kw_300 (Nat.le_of_ble_eq_true rfl) dX6_remember_34 ?_
  obtain ⟨σ4, hσ4, hf⟩ := zbind hf
  refine gp_RX6_20 C hσ4 dX6_remember_37 ?_
  refine z_aload_n C dX6_remember_40 rfl 0 rfl ?_
  obtain ⟨v5, hv5, hf⟩ := zbind hf
  refine gf_RX6_11 C hv5 dX6_remember_41 ?_
  refine z_aload_n C dX6_remember_44 rfl 0 rfl ?_
  obtain ⟨v6, hv6, hf⟩ := zbind hf
  refine gf_RX6_24 C hv6 dX6_remember_45 ?_
  obtain ⟨v7, hv7, hf⟩ := zbind hf
  refine z_aR C hv7 dX6_remember_48 ?_
  cases v7 with
  | none =>
    dsimp only at hf
    refine z_astore_nN (lv2 := [(2, .null), (0, .ref x0), (1, .ref x1)]) C dX6_remember_49 rfl (by decide) rfl ?_
    refine z_aload_nN C dX6_remember_50 rfl 0 rfl ?_
    refine z_ifnullN C 59 dX6_remember_51 (by decide) ?_
    cases hf
    exact hq _ _ dX6_remember_59
  | some a8 =>
    dsimp only at hf
    refine z_astore_n (lv2 := [(2, .ref a8), (0, .ref x0), (1, .ref x1)]) C dX6_remember_49 rfl (by decide) rfl ?_
    refine z_aload_n C dX6_remember_50 rfl 0 rfl ?_
    refine z_ifnull C dX6_remember_51 ?_
    refine z_aload_n C dX6_remember_54 rfl 0 rfl ?_
    refine z_aload_n C dX6_remember_55 rfl 2 rfl ?_
    obtain ⟨c9, hc9, hf⟩ := zbind hf
    obtain ⟨kc9, hc9⟩ := zck_ok hc9
    refine z_callVv (As := [.ref x1]) (F0 := 5) (L0 := 148) C (mX1_copyFrom l D Ca B En C.2.2.2.2.2.2.2.1 σ4 N a8 x1 _ hc9) hRm kc9 rfl kw_593 kw_8 kw_590 kw_591 kw_592 hyX1_copyFrom (Nat.le_of_ble_eq_true rfl) (Nat.le_of_ble_eq_true rfl) rfl rfl (Nat.le_of_ble_eq_true rfl) dX6_remember_56 ?_
    cases hf
    exact hq _ _ dX6_remember_59

set_option maxRecDepth 100000 in
set_option maxHeartbeats 4000000 in
theorem wfX6_remember (C : zC p s m args meth c cX6_remember RX6 3 D Ca B En) (hRm : zRm R 5 148 cells slots) (σ : zS) (x0 : Nat) (x1 : Nat) (τ : zS) (hf : fX6_remember σ x0 x1 = some τ) (hq : ∀ (pc : Nat) (lv : List (Nat × Value)), decode cX6_remember pc = .ok (.return_, 1) → zW p l e R s m args below meth c cells slots Q D Ca B 3 τ N pc lv []) : zW p l e R s m args below meth c cells slots Q D Ca B 3 σ N 0 [(0, .ref x0), (1, .ref x1)] [] := by
  unfold fX6_remember at hf
  refine z_aload_n C dX6_remember_0 rfl 0 rfl ?_
  refine z_aload_n C dX6_remember_1 rfl 0 rfl ?_
  obtain ⟨v1, hv1, hf⟩ := zbind hf
  refine gf_RX6_24 C hv1 dX6_remember_2 ?_
  refine z_iconst C (zi 1) dX6_remember_5 (by decide) ?_
  refine z_iadd C dX6_remember_6 ?_
  refine z_bipush C (zi 6) dX6_remember_7 (by decide) ?_
  refine z_icmp_ge C 21 dX6_remember_9 (by decide) (fun q11 => ?_) (fun q11 => ?_)
  · rw [if_pos q11] at hf
    refine z_iconst C (zi 0) dX6_remember_21 (by decide) ?_
    refine z_sub [0, 1] rfl ?_
    exact wjX6_remember_22 C hRm _ _ _ _ _ _ hf hq
  · rw [if_neg q11] at hf
    refine z_aload_n C dX6_remember_12 rfl 0 rfl ?_
    obtain ⟨v10, hv10, hf⟩ := zbind hf
    refine gf_RX6_24 C hv10 dX6_remember_13 ?_
    refine z_iconst C (zi 1) dX6_remember_16 (by decide) ?_
    refine z_iadd C dX6_remember_17 ?_
    refine z_goto C 22 dX6_remember_18 (by decide) ?_
    refine z_sub [0, 1] rfl ?_
    exact wjX6_remember_22 C hRm _ _ _ _ _ _ hf hq

theorem mX6_remember (l : Launch) (D : va_G) (Ca : Nat → ClassId) (B : Nat) (En : State → Prop) (hE : zEk B En) (σ : zS) (N : Nat) (x0 : Nat) (x1 : Nat) (X : zS) (hf : fX6_remember σ x0 x1 = some X) : zMv l D Ca B En yX6_remember cX6_remember 3 (Option.none : Option Jvm.ClassFile.FieldType) 5 148 [.ref x0, .ref x1] σ N X () :=
  zMet_v (own := RX6) hE (by decide +kernel) rfl (Nat.le_of_ble_eq_true rfl) (fun p e s m args below meth c C hr hRm => wfX6_remember C hRm σ x0 x1 X hf (fun pc lv hd => zfin_v (r := ()) C hr hd))
theorem dX6_giveBack_0 : decode cX6_giveBack 0 = .ok (.aload_n 0, 1) := by decide +kernel
theorem dX6_giveBack_1 : decode cX6_giveBack 1 = .ok (.getfield 11, 3) := by decide +kernel
theorem dX6_giveBack_4 : decode cX6_giveBack 4 = .ok (.aload_n 0, 1) := by decide +kernel
theorem dX6_giveBack_5 : decode cX6_giveBack 5 = .ok (.getfield 24, 3) := by decide +kernel
theorem dX6_giveBack_8 : decode cX6_giveBack 8 = .ok (.aaload, 1) := by decide +kernel
theorem dX6_giveBack_9 : decode cX6_giveBack 9 = .ok (.astore_n 2, 1) := by decide +kernel
theorem dX6_giveBack_10 : decode cX6_giveBack 10 = .ok (.aload_n 0, 1) := by decide +kernel
theorem dX6_giveBack_11 : decode cX6_giveBack 11 = .ok (.getfield 20, 3) := by decide +kernel
theorem dX6_giveBack_14 : decode cX6_giveBack 14 = .ok (.ifCond .eq 7, 3) := by decide +kernel
theorem dX6_giveBack_17 : decode cX6_giveBack 17 = .ok (.aload_n 2, 1) := by decide +kernel
theorem dX6_giveBack_18 : decode cX6_giveBack 18 = .ok (.ifnonnull 4, 3) := by decide +kernel
theorem dX6_giveBack_21 : decode cX6_giveBack 21 = .ok (.return_, 1) := by decide +kernel
theorem dX6_giveBack_22 : decode cX6_giveBack 22 = .ok (.aload_n 1, 1) := by decide +kernel
theorem dX6_giveBack_23 : decode cX6_giveBack 23 = .ok (.aload_n 2, 1) := by decide +kernel
theorem dX6_giveBack_24 : decode cX6_giveBack 24 = .ok (.invokevirtual 33, 3) := by decide +kernel
theorem dX6_giveBack_27 : decode cX6_giveBack 27 = .ok (.aload_n 0, 1) := by decide +kernel
theorem dX6_giveBack_28 : decode cX6_giveBack 28 = .ok (.aload_n 0, 1) := by decide +kernel
theorem dX6_giveBack_29 : decode cX6_giveBack 29 = .ok (.getfield 24, 3) := by decide +kernel
theorem dX6_giveBack_32 : decode cX6_giveBack 32 = .ok (.ifCond .le 12, 3) := by decide +kernel
theorem dX6_giveBack_35 : decode cX6_giveBack 35 = .ok (.aload_n 0, 1) := by decide +kernel
theorem dX6_giveBack_36 : decode cX6_giveBack 36 = .ok (.getfield 24, 3) := by decide +kernel
theorem dX6_giveBack_39 : decode cX6_giveBack 39 = .ok (.iconst 1, 1) := by decide +kernel
theorem dX6_giveBack_40 : decode cX6_giveBack 40 = .ok (.isub, 1) := by decide +kernel
theorem dX6_giveBack_41 : decode cX6_giveBack 41 = .ok (.goto 4, 3) := by decide +kernel
theorem dX6_giveBack_44 : decode cX6_giveBack 44 = .ok (.iconst 5, 1) := by decide +kernel
theorem dX6_giveBack_45 : decode cX6_giveBack 45 = .ok (.putfield 24, 3) := by decide +kernel
theorem dX6_giveBack_48 : decode cX6_giveBack 48 = .ok (.aload_n 0, 1) := by decide +kernel
theorem dX6_giveBack_49 : decode cX6_giveBack 49 = .ok (.dup, 1) := by decide +kernel
theorem dX6_giveBack_50 : decode cX6_giveBack 50 = .ok (.getfield 20, 3) := by decide +kernel
theorem dX6_giveBack_53 : decode cX6_giveBack 53 = .ok (.iconst 1, 1) := by decide +kernel
theorem dX6_giveBack_54 : decode cX6_giveBack 54 = .ok (.isub, 1) := by decide +kernel
theorem dX6_giveBack_55 : decode cX6_giveBack 55 = .ok (.putfield 20, 3) := by decide +kernel
theorem dX6_giveBack_58 : decode cX6_giveBack 58 = .ok (.return_, 1) := by decide +kernel
theorem hyX6_giveBack : yX6_giveBack.cls ≠ "java/lang/invoke/MethodHandle" ∧ yX6_giveBack.cls ≠ "java/lang/invoke/VarHandle" ∧ (parseMethodDescriptor yX6_giveBack.desc).map (fun d => d.parameters.length) = some 1 := ⟨by decide +kernel, by decide +kernel, by decide +kernel⟩
set_option maxRecDepth 100000 in
set_option maxHeartbeats 4000000 in
theorem wjX6_giveBack_45 (C : zC p s m args meth c cX6_giveBack RX6 3 D Ca B En) (hRm : zRm R 5 148 cells slots) (σ : zS) (x0 : Nat) (y0 : Int32) (y1 : Nat) (τ : zS) (hf : jX6_giveBack_45 σ x0 y0 y1 = some τ) (hq : ∀ (pc : Nat) (lv : List (Nat × Value)), decode cX6_giveBack pc = .ok (.return_, 1) → zW p l e R s m args below meth c cells slots Q D Ca B 3 τ N pc lv []) : zW p l e R s m args below meth c cells slots Q D Ca B 3 σ N 45 [(0, .ref x0)] [.int y0, .ref y1] := by
  unfold jX6_giveBack_45 at hf
  obtain ⟨σ10, hσ10, hf⟩ := zbind hf
  refine gp_RX6_24 C hσ10 dX6_giveBack_45 ?_
  refine z_aload_n C dX6_giveBack_48 rfl 0 rfl ?_
  refine z_dup C dX6_giveBack_49 rfl ?_
  obtain ⟨v11, hv11, hf⟩ := zbind hf
  refine gf_RX6_20 C hv11 dX6_giveBack_50 ?_
  refine z_iconst C (zi 1) dX6_giveBack_53 (by decide) ?_
  refine z_isub C dX6_giveBack_54 ?_
  obtain ⟨σ12, hσ12, hf⟩ := zbind hf
  refine gp_RX6_20 C hσ12 dX6_giveBack_55 ?_
  cases hf
  exact hq _ _ dX6_giveBack_58

set_option maxRecDepth 100000 in
set_option maxHeartbeats 4000000 in
theorem wfX6_giveBack (C : zC p s m args meth c cX6_giveBack RX6 3 D Ca B En) (hRm : zRm R 5 148 cells slots) (σ : zS) (x0 : Nat) (x1 : Nat) (τ : zS) (hf : fX6_giveBack σ x0 x1 = some τ) (hq : ∀ (pc : Nat) (lv : List (Nat × Value)), decode cX6_giveBack pc = .ok (.return_, 1) → zW p l e R s m args below meth c cells slots Q D Ca B 3 τ N pc lv []) : zW p l e R s m args below meth c cells slots Q D Ca B 3 σ N 0 [(0, .ref x0), (1, .ref x1)] [] := by
  unfold fX6_giveBack at hf
  refine z_aload_n C dX6_giveBack_0 rfl 0 rfl ?_
  obtain ⟨v1, hv1, hf⟩ := zbind hf
  refine gf_RX6_11 C hv1 dX6_giveBack_1 ?_
  refine z_aload_n C dX6_giveBack_4 rfl 0 rfl ?_
  obtain ⟨v2, hv2, hf⟩ := zbind hf
  refine gf_RX6_24 C hv2 dX6_giveBack_5 ?_
  obtain ⟨v3, hv3, hf⟩ := zbind hf
  refine z_aR C hv3 dX6_giveBack_8 ?_
  cases v3 with
  | none =>
    dsimp only at hf
    refine z_astore_nN (lv2 := [(2, .null), (0, .ref x0), (1, .ref x1)]) C dX6_giveBack_9 rfl (by decide) rfl ?_
    refine z_aload_n C dX6_giveBack_10 rfl 1 rfl ?_
    obtain ⟨v5, hv5, hf⟩ := zbind hf
    refine gf_RX6_20 C hv5 dX6_giveBack_11 ?_
    refine z_if_eq C 21 dX6_giveBack_14 (by decide) (fun q6 => ?_) (fun q6 => ?_)
    · rw [if_pos q6] at hf
      cases hf
      exact hq _ _ dX6_giveBack_21
    · rw [if_neg q6] at hf
      refine z_aload_nN C dX6_giveBack_17 rfl 0 rfl ?_
      refine z_ifnonnullN C dX6_giveBack_18 ?_
      cases hf
      exact hq _ _ dX6_giveBack_21
  | some a4 =>
    dsimp only at hf
    refine z_astore_n (lv2 := [(2, .ref a4), (0, .ref x0), (1, .ref x1)]) C dX6_giveBack_9 rfl (by decide) rfl ?_
    refine z_aload_n C dX6_giveBack_10 rfl 1 rfl ?_
    obtain ⟨v7, hv7, hf⟩ := zbind hf
    refine gf_RX6_20 C hv7 dX6_giveBack_11 ?_
    refine z_if_eq C 21 dX6_giveBack_14 (by decide) (fun q15 => ?_) (fun q15 => ?_)
    · rw [if_pos q15] at hf
      cases hf
      exact hq _ _ dX6_giveBack_21
    · rw [if_neg q15] at hf
      refine z_aload_n C dX6_giveBack_17 rfl 0 rfl ?_
      refine z_ifnonnull C 22 dX6_giveBack_18 (by decide) ?_
      refine z_aload_n C dX6_giveBack_22 rfl 2 rfl ?_
      refine z_aload_n C dX6_giveBack_23 rfl 0 rfl ?_
      obtain ⟨c8, hc8, hf⟩ := zbind hf
      obtain ⟨kc8, hc8⟩ := zck_ok hc8
      refine z_callVv (As := [.ref a4]) (F0 := 5) (L0 := 148) C (mX1_copyFrom l D Ca B En C.2.2.2.2.2.2.2.1 σ N x1 a4 _ hc8) hRm kc8 rfl kw_593 kw_8 kw_590 kw_591 kw_592 hyX1_copyFrom (Nat.le_of_ble_eq_true rfl) (Nat.le_of_ble_eq_true rfl) rfl rfl (Nat.le_of_ble_eq_true rfl) dX6_giveBack_24 ?_
      refine z_aload_n C dX6_giveBack_27 rfl 1 rfl ?_
      refine z_aload_n C dX6_giveBack_28 rfl 1 rfl ?_
      obtain ⟨v9, hv9, hf⟩ := zbind hf
      refine gf_RX6_24 C hv9 dX6_giveBack_29 ?_
      refine z_if_le C 44 dX6_giveBack_32 (by decide) (fun q14 => ?_) (fun q14 => ?_)
      · rw [if_pos q14] at hf
        refine z_iconst C (zi 5) dX6_giveBack_44 (by decide) ?_
        refine z_sub [1] rfl ?_
        exact wjX6_giveBack_45 C hRm _ _ _ _ _ hf hq
      · rw [if_neg q14] at hf
        refine z_aload_n C dX6_giveBack_35 rfl 1 rfl ?_
        obtain ⟨v13, hv13, hf⟩ := zbind hf
        refine gf_RX6_24 C hv13 dX6_giveBack_36 ?_
        refine z_iconst C (zi 1) dX6_giveBack_39 (by decide) ?_
        refine z_isub C dX6_giveBack_40 ?_
        refine z_goto C 45 dX6_giveBack_41 (by decide) ?_
        refine z_sub [1] rfl ?_
        exact wjX6_giveBack_45 C hRm _ _ _ _ _ hf hq

theorem mX6_giveBack (l : Launch) (D : va_G) (Ca : Nat → ClassId) (B : Nat) (En : State → Prop) (hE : zEk B En) (σ : zS) (N : Nat) (x0 : Nat) (x1 : Nat) (X : zS) (hf : fX6_giveBack σ x0 x1 = some X) : zMv l D Ca B En yX6_giveBack cX6_giveBack 3 (Option.none : Option Jvm.ClassFile.FieldType) 5 148 [.ref x0, .ref x1] σ N X () :=
  zMet_v (own := RX6) hE (by decide +kernel) rfl (Nat.le_of_ble_eq_true rfl) (fun p e s m args below meth c C hr hRm => wfX6_giveBack C hRm σ x0 x1 X hf (fun pc lv hd => zfin_v (r := ()) C hr hd))
theorem dX7_makePlain_0 : decode cX7_makePlain 0 = .ok (.aload_n 0, 1) := by decide +kernel
theorem dX7_makePlain_1 : decode cX7_makePlain 1 = .ok (.invokevirtual 48, 3) := by decide +kernel
theorem dX7_makePlain_4 : decode cX7_makePlain 4 = .ok (.aload_n 0, 1) := by decide +kernel
theorem dX7_makePlain_5 : decode cX7_makePlain 5 = .ok (.iconst 1, 1) := by decide +kernel
theorem dX7_makePlain_6 : decode cX7_makePlain 6 = .ok (.putfield 40, 3) := by decide +kernel
theorem dX7_makePlain_9 : decode cX7_makePlain 9 = .ok (.aload_n 0, 1) := by decide +kernel
theorem dX7_makePlain_10 : decode cX7_makePlain 10 = .ok (.getfield 24, 3) := by decide +kernel
theorem dX7_makePlain_13 : decode cX7_makePlain 13 = .ok (.iconst 0, 1) := by decide +kernel
theorem dX7_makePlain_14 : decode cX7_makePlain 14 = .ok (.bipush 97, 2) := by decide +kernel
theorem dX7_makePlain_16 : decode cX7_makePlain 16 = .ok (.bastore, 1) := by decide +kernel
theorem dX7_makePlain_17 : decode cX7_makePlain 17 = .ok (.aload_n 0, 1) := by decide +kernel
theorem dX7_makePlain_18 : decode cX7_makePlain 18 = .ok (.getfield 21, 3) := by decide +kernel
theorem dX7_makePlain_21 : decode cX7_makePlain 21 = .ok (.iconst 0, 1) := by decide +kernel
theorem dX7_makePlain_22 : decode cX7_makePlain 22 = .ok (.iconst 1, 1) := by decide +kernel
theorem dX7_makePlain_23 : decode cX7_makePlain 23 = .ok (.iastore, 1) := by decide +kernel
theorem dX7_makePlain_24 : decode cX7_makePlain 24 = .ok (.aload_n 0, 1) := by decide +kernel
theorem dX7_makePlain_25 : decode cX7_makePlain 25 = .ok (.invokevirtual 51, 3) := by decide +kernel
theorem dX7_makePlain_28 : decode cX7_makePlain 28 = .ok (.return_, 1) := by decide +kernel
theorem hyX7_makePlain : yX7_makePlain.cls ≠ "java/lang/invoke/MethodHandle" ∧ yX7_makePlain.cls ≠ "java/lang/invoke/VarHandle" ∧ (parseMethodDescriptor yX7_makePlain.desc).map (fun d => d.parameters.length) = some 0 := ⟨by decide +kernel, by decide +kernel, by decide +kernel⟩
set_option maxRecDepth 100000 in
set_option maxHeartbeats 4000000 in
theorem wfX7_makePlain (C : zC p s m args meth c cX7_makePlain RX7 1 D Ca B En) (hRm : zRm R 3 67 cells slots) (ev : zEv) (hZ : ∀ U : State, En U → zEnv ev B U) (σ : zS) (x0 : Nat) (τ : zS) (hf : fX7_makePlain σ x0 = some τ) (hq : ∀ (pc : Nat) (lv : List (Nat × Value)), decode cX7_makePlain pc = .ok (.return_, 1) → zW p l e R s m args below meth c cells slots Q D Ca B 1 τ N pc lv []) : zW p l e R s m args below meth c cells slots Q D Ca B 1 σ N 0 [(0, .ref x0)] [] := by
  unfold fX7_makePlain at hf
  refine z_aload_n C dX7_makePlain_0 rfl 0 rfl ?_
  obtain ⟨c1, hc1, hf⟩ := zbind hf
  obtain ⟨kc1, hc1⟩ := zck_ok hc1
  refine z_callVv (As := []) (F0 := 3) (L0 := 67) C (mX7_clear l D Ca B En C.2.2.2.2.2.2.2.1 σ N x0  _ hc1) hRm kc1 rfl kw_162 kw_5 kw_159 kw_160 kw_161 hyX7_clear (Nat.le_of_ble_eq_true rfl) (Nat.le_of_ble_eq_true rfl) rfl rfl (Nat.le_of_ble_eq_true rfl) dX7_makePlain_1 ?_
  refine z_aload_n C dX7_makePlain_4 rfl 0 rfl ?_
  refine z_iconst C (zi 1) dX7_makePlain_5 (by decide) ?_
  obtain ⟨σ2, hσ2, hf⟩ := zbind hf
  refine gp_RX7_40 C hσ2 dX7_makePlain_6 ?_
  refine z_aload_n C dX7_makePlain_9 rfl 0 rfl ?_
  obtain ⟨v3, hv3, hf⟩ := zbind hf
  refine gf_RX7_24 C hv3 dX7_makePlain_10 ?_
  refine z_iconst C (zi 0) dX7_makePlain_13 (by decide) ?_
  refine z_bipush C (zi 97) dX7_makePlain_14 (by decide) ?_
  obtain ⟨σ4, hσ4, hf⟩ := zbind hf
  refine z_sB C hσ4 dX7_makePlain_16 ?_
  refine z_aload_n C dX7_makePlain_17 rfl 0 rfl ?_
  obtain ⟨v5, hv5, hf⟩ := zbind hf
  refine gf_RX7_21 C hv5 dX7_makePlain_18 ?_
  refine z_iconst C (zi 0) dX7_makePlain_21 (by decide) ?_
  refine z_iconst C (zi 1) dX7_makePlain_22 (by decide) ?_
  obtain ⟨σ6, hσ6, hf⟩ := zbind hf
  refine z_sI C hσ6 dX7_makePlain_23 ?_
  refine z_aload_n C dX7_makePlain_24 rfl 0 rfl ?_
  obtain ⟨c7, hc7, hf⟩ := zbind hf
  obtain ⟨kc7, hc7⟩ := zck_ok hc7
  refine z_callVv (As := []) (F0 := 3) (L0 := 67) C (mX7_finish l D Ca B En C.2.2.2.2.2.2.2.1 ev hZ σ6 N x0  _ hc7) hRm kc7 rfl kw_169 kw_5 kw_166 kw_167 kw_168 hyX7_finish (Nat.le_of_ble_eq_true rfl) (Nat.le_of_ble_eq_true rfl) rfl rfl (Nat.le_of_ble_eq_true rfl) dX7_makePlain_25 ?_
  cases hf
  exact hq _ _ dX7_makePlain_28

theorem mX7_makePlain (l : Launch) (D : va_G) (Ca : Nat → ClassId) (B : Nat) (En : State → Prop) (hE : zEk B En) (ev : zEv) (hZ : ∀ U : State, En U → zEnv ev B U) (σ : zS) (N : Nat) (x0 : Nat) (X : zS) (hf : fX7_makePlain σ x0 = some X) : zMv l D Ca B En yX7_makePlain cX7_makePlain 1 (Option.none : Option Jvm.ClassFile.FieldType) 3 67 [.ref x0] σ N X () :=
  zMet_v (own := RX7) hE (by decide +kernel) rfl (Nat.le_of_ble_eq_true rfl) (fun p e s m args below meth c C hr hRm => wfX7_makePlain C hRm ev hZ σ x0 X hf (fun pc lv hd => zfin_v (r := ()) C hr hd))
theorem dX7_resultOf_0 : decode cX7_resultOf 0 = .ok (.iload_n 1, 1) := by decide +kernel
theorem dX7_resultOf_1 : decode cX7_resultOf 1 = .ok (.ifCond .lt 19, 3) := by decide +kernel
theorem dX7_resultOf_4 : decode cX7_resultOf 4 = .ok (.iload_n 1, 1) := by decide +kernel
theorem dX7_resultOf_5 : decode cX7_resultOf 5 = .ok (.sipush 800, 3) := by decide +kernel
theorem dX7_resultOf_8 : decode cX7_resultOf 8 = .ok (.if_icmp .ge 12, 3) := by decide +kernel
theorem dX7_resultOf_11 : decode cX7_resultOf 11 = .ok (.aload_n 0, 1) := by decide +kernel
theorem dX7_resultOf_12 : decode cX7_resultOf 12 = .ok (.getfield 37, 3) := by decide +kernel
theorem dX7_resultOf_15 : decode cX7_resultOf 15 = .ok (.iload_n 1, 1) := by decide +kernel
theorem dX7_resultOf_16 : decode cX7_resultOf 16 = .ok (.iaload, 1) := by decide +kernel
theorem dX7_resultOf_17 : decode cX7_resultOf 17 = .ok (.goto 4, 3) := by decide +kernel
theorem dX7_resultOf_20 : decode cX7_resultOf 20 = .ok (.iconst 0, 1) := by decide +kernel
theorem dX7_resultOf_21 : decode cX7_resultOf 21 = .ok (.ireturn, 1) := by decide +kernel
theorem hyX7_resultOf : yX7_resultOf.cls ≠ "java/lang/invoke/MethodHandle" ∧ yX7_resultOf.cls ≠ "java/lang/invoke/VarHandle" ∧ (parseMethodDescriptor yX7_resultOf.desc).map (fun d => d.parameters.length) = some 1 := ⟨by decide +kernel, by decide +kernel, by decide +kernel⟩
set_option maxRecDepth 100000 in
set_option maxHeartbeats 4000000 in
theorem wfX7_resultOf (C : zC p s m args meth c cX7_resultOf RX7 2 D Ca B En) (hRm : zRm R 0 0 cells slots) (σ : zS) (x0 : Nat) (x1 : Int32) (τ : zS) (r : Int32) (hf : fX7_resultOf σ x0 x1 = some (τ, r)) (hq : ∀ (pc : Nat) (lv : List (Nat × Value)), decode cX7_resultOf pc = .ok (.ireturn, 1) → zW p l e R s m args below meth c cells slots Q D Ca B 2 τ N pc lv [.int r]) : zW p l e R s m args below meth c cells slots Q D Ca B 2 σ N 0 [(0, .ref x0), (1, .int x1)] [] := by
  unfold fX7_resultOf at hf
  refine z_iload_n C dX7_resultOf_0 rfl 1 rfl ?_
  refine z_if_lt C 20 dX7_resultOf_1 (by decide) (fun q4 => ?_) (fun q4 => ?_)
  · rw [if_pos q4] at hf
    refine z_iconst C (zi 0) dX7_resultOf_20 (by decide) ?_
    cases hf
    exact hq _ _ dX7_resultOf_21
  · rw [if_neg q4] at hf
    refine z_iload_n C dX7_resultOf_4 rfl 1 rfl ?_
    refine z_sipush C (zi 800) dX7_resultOf_5 (by decide) ?_
    refine z_icmp_ge C 20 dX7_resultOf_8 (by decide) (fun q3 => ?_) (fun q3 => ?_)
    · rw [if_pos q3] at hf
      refine z_iconst C (zi 0) dX7_resultOf_20 (by decide) ?_
      cases hf
      exact hq _ _ dX7_resultOf_21
    · rw [if_neg q3] at hf
      refine z_aload_n C dX7_resultOf_11 rfl 0 rfl ?_
      obtain ⟨v1, hv1, hf⟩ := zbind hf
      refine gf_RX7_37 C hv1 dX7_resultOf_12 ?_
      refine z_iload_n C dX7_resultOf_15 rfl 1 rfl ?_
      obtain ⟨v2, hv2, hf⟩ := zbind hf
      refine z_aI C hv2 dX7_resultOf_16 ?_
      refine z_goto C 21 dX7_resultOf_17 (by decide) ?_
      cases hf
      exact hq _ _ dX7_resultOf_21

theorem mX7_resultOf (l : Launch) (D : va_G) (Ca : Nat → ClassId) (B : Nat) (En : State → Prop) (hE : zEk B En) (σ : zS) (N : Nat) (x0 : Nat) (x1 : Int32) (X : zS × Int32) (hf : fX7_resultOf σ x0 x1 = some X) : zMi l D Ca B En yX7_resultOf cX7_resultOf 2 (Option.some Jvm.ClassFile.FieldType.int) 0 0 [.ref x0, .int x1] σ N X.1 X.2 :=
  zMet_i (own := RX7) hE (by decide +kernel) rfl (Nat.le_of_ble_eq_true rfl) (fun p e s m args below meth c C hr hRm => wfX7_resultOf C hRm σ x0 x1 X.1 X.2 hf (fun pc lv hd => zfin_i C hr hd))
theorem dX7_resultBehind_0 : decode cX7_resultBehind 0 = .ok (.iload_n 1, 1) := by decide +kernel
theorem dX7_resultBehind_1 : decode cX7_resultBehind 1 = .ok (.iconst 4, 1) := by decide +kernel
theorem dX7_resultBehind_2 : decode cX7_resultBehind 2 = .ok (.irem, 1) := by decide +kernel
theorem dX7_resultBehind_3 : decode cX7_resultBehind 3 = .ok (.istore_n 3, 1) := by decide +kernel
theorem dX7_resultBehind_4 : decode cX7_resultBehind 4 = .ok (.iload_n 2, 1) := by decide +kernel
theorem dX7_resultBehind_5 : decode cX7_resultBehind 5 = .ok (.istore 4, 2) := by decide +kernel
theorem dX7_resultBehind_7 : decode cX7_resultBehind 7 = .ok (.iconst 0, 1) := by decide +kernel
theorem dX7_resultBehind_8 : decode cX7_resultBehind 8 = .ok (.istore 5, 2) := by decide +kernel
theorem dX7_resultBehind_10 : decode cX7_resultBehind 10 = .ok (.iload_n 3, 1) := by decide +kernel
theorem dX7_resultBehind_11 : decode cX7_resultBehind 11 = .ok (.aload_n 0, 1) := by decide +kernel
theorem dX7_resultBehind_12 : decode cX7_resultBehind 12 = .ok (.getfield 40, 3) := by decide +kernel
theorem dX7_resultBehind_15 : decode cX7_resultBehind 15 = .ok (.if_icmp .ge 53, 3) := by decide +kernel
theorem dX7_resultBehind_18 : decode cX7_resultBehind 18 = .ok (.iload 5, 2) := by decide +kernel
theorem dX7_resultBehind_20 : decode cX7_resultBehind 20 = .ok (.aload_n 0, 1) := by decide +kernel
theorem dX7_resultBehind_21 : decode cX7_resultBehind 21 = .ok (.getfield 9, 3) := by decide +kernel
theorem dX7_resultBehind_24 : decode cX7_resultBehind 24 = .ok (.iload_n 3, 1) := by decide +kernel
theorem dX7_resultBehind_25 : decode cX7_resultBehind 25 = .ok (.iaload, 1) := by decide +kernel
theorem dX7_resultBehind_26 : decode cX7_resultBehind 26 = .ok (.if_icmp .ge 42, 3) := by decide +kernel
theorem dX7_resultBehind_29 : decode cX7_resultBehind 29 = .ok (.iload_n 3, 1) := by decide +kernel
theorem dX7_resultBehind_30 : decode cX7_resultBehind 30 = .ok (.iload 5, 2) := by decide +kernel
theorem dX7_resultBehind_32 : decode cX7_resultBehind 32 = .ok (.invokestatic 74, 3) := by decide +kernel
theorem dX7_resultBehind_35 : decode cX7_resultBehind 35 = .ok (.istore 6, 2) := by decide +kernel
theorem dX7_resultBehind_37 : decode cX7_resultBehind 37 = .ok (.aload_n 0, 1) := by decide +kernel
theorem dX7_resultBehind_38 : decode cX7_resultBehind 38 = .ok (.iload 6, 2) := by decide +kernel
theorem dX7_resultBehind_40 : decode cX7_resultBehind 40 = .ok (.invokevirtual 94, 3) := by decide +kernel
theorem dX7_resultBehind_43 : decode cX7_resultBehind 43 = .ok (.iload_n 1, 1) := by decide +kernel
theorem dX7_resultBehind_44 : decode cX7_resultBehind 44 = .ok (.if_icmp .ne 18, 3) := by decide +kernel
theorem dX7_resultBehind_47 : decode cX7_resultBehind 47 = .ok (.iinc 4 (-1), 3) := by decide +kernel
theorem dX7_resultBehind_50 : decode cX7_resultBehind 50 = .ok (.iload 4, 2) := by decide +kernel
theorem dX7_resultBehind_52 : decode cX7_resultBehind 52 = .ok (.ifCond .ne 10, 3) := by decide +kernel
theorem dX7_resultBehind_55 : decode cX7_resultBehind 55 = .ok (.aload_n 0, 1) := by decide +kernel
theorem dX7_resultBehind_56 : decode cX7_resultBehind 56 = .ok (.iload 6, 2) := by decide +kernel
theorem dX7_resultBehind_58 : decode cX7_resultBehind 58 = .ok (.invokevirtual 98, 3) := by decide +kernel
theorem dX7_resultBehind_61 : decode cX7_resultBehind 61 = .ok (.ireturn, 1) := by decide +kernel
theorem dX7_resultBehind_62 : decode cX7_resultBehind 62 = .ok (.iinc 5 1, 3) := by decide +kernel
theorem dX7_resultBehind_65 : decode cX7_resultBehind 65 = .ok (.goto (-55), 3) := by decide +kernel
theorem dX7_resultBehind_68 : decode cX7_resultBehind 68 = .ok (.iconst (-1), 1) := by decide +kernel
theorem dX7_resultBehind_69 : decode cX7_resultBehind 69 = .ok (.ireturn, 1) := by decide +kernel
theorem hyX7_resultBehind : yX7_resultBehind.cls ≠ "java/lang/invoke/MethodHandle" ∧ yX7_resultBehind.cls ≠ "java/lang/invoke/VarHandle" ∧ (parseMethodDescriptor yX7_resultBehind.desc).map (fun d => d.parameters.length) = some 2 := ⟨by decide +kernel, by decide +kernel, by decide +kernel⟩
set_option maxRecDepth 100000 in
set_option maxHeartbeats 4000000 in
theorem wjX7_resultBehind_62_L10 (C : zC p s m args meth c cX7_resultBehind RX7 7 D Ca B En) (hRm : zRm R 1 21 cells slots) (σ : zS) (x0 : Nat) (x1 : Int32) (x3 : Int32) (x4 : Int32) (x5 : Int32)  (y : (zS × Int32 × Int32) ⊕ ((zS × Int32) ⊕ zS)) (hf : jX7_resultBehind_62_L10 σ x0 x1 x3 x4 x5  = some y) (hk : (∀ z : (zS × Int32 × Int32), y = .inl z → zW p l e R s m args below meth c cells slots Q D Ca B 7 z.1 N 10 [(0, .ref x0), (1, .int x1), (3, .int x3), (4, .int z.2.1), (5, .int z.2.2)] []) ∧ (∀ z : (zS × Int32), y = .inr (.inl z) → zW p l e R s m args below meth c cells slots Q D Ca B 7 z.1 N 55 [(0, .ref x0), (6, .int z.2)] []) ∧ (∀ z : zS, y = .inr (.inr z) → zW p l e R s m args below meth c cells slots Q D Ca B 7 z N 68 [] [])) : zW p l e R s m args below meth c cells slots Q D Ca B 7 σ N 62 [(0, .ref x0), (1, .int x1), (3, .int x3), (4, .int x4), (5, .int x5)] [] := by
  unfold jX7_resultBehind_62_L10 at hf
  refine z_iinc (lv2 := [(5, .int (x5 + (zi 1))), (0, .ref x0), (1, .int x1), (3, .int x3), (4, .int x4)]) C (x5 + (zi 1)) dX7_resultBehind_62 4 rfl rfl (by decide) rfl ?_
  refine z_goto C 10 dX7_resultBehind_65 (by decide) ?_
  cases hf
  refine z_sub [1, 2, 3, 4, 0] rfl ?_
  exact hk.1 _ rfl

set_option maxRecDepth 100000 in
set_option maxHeartbeats 4000000 in
theorem wsX7_resultBehind_10b (C : zC p s m args meth c cX7_resultBehind RX7 7 D Ca B En) (hRm : zRm R 1 21 cells slots) (x0 : Nat) (x1 : Int32) (x3 : Int32) (σ : zS) (u4 : Int32) (u5 : Int32) (y : (zS × Int32 × Int32) ⊕ ((zS × Int32) ⊕ zS)) (hf : sX7_resultBehind_10b x0 x1 x3 σ u4 u5 = some y) (hk : (∀ z : (zS × Int32 × Int32), y = .inl z → zW p l e R s m args below meth c cells slots Q D Ca B 7 z.1 N 10 [(0, .ref x0), (1, .int x1), (3, .int x3), (4, .int z.2.1), (5, .int z.2.2)] []) ∧ (∀ z : (zS × Int32), y = .inr (.inl z) → zW p l e R s m args below meth c cells slots Q D Ca B 7 z.1 N 55 [(0, .ref x0), (6, .int z.2)] []) ∧ (∀ z : zS, y = .inr (.inr z) → zW p l e R s m args below meth c cells slots Q D Ca B 7 z N 68 [] [])) : zW p l e R s m args below meth c cells slots Q D Ca B 7 σ N 10 [(0, .ref x0), (1, .int x1), (3, .int x3), (4, .int u4), (5, .int u5)] [] := by
  unfold sX7_resultBehind_10b at hf
  refine z_iload_n C dX7_resultBehind_10 rfl 2 rfl ?_
  refine z_aload_n C dX7_resultBehind_11 rfl 0 rfl ?_
  obtain ⟨v1, hv1, hf⟩ := zbind hf
  refine gf_RX7_40 C hv1 dX7_resultBehind_12 ?_
  refine z_icmp_ge C 68 dX7_resultBehind_15 (by decide) (fun q9 => ?_) (fun q9 => ?_)
  · rw [if_pos q9] at hf
    cases hf
    refine z_sub [] rfl ?_
    exact hk.2.2 _ rfl
  · rw [if_neg q9] at hf
    refine z_iload C dX7_resultBehind_18 4 rfl ?_
    refine z_aload_n C dX7_resultBehind_20 rfl 0 rfl ?_
    obtain ⟨v2, hv2, hf⟩ := zbind hf
    refine gf_RX7_9 C hv2 dX7_resultBehind_21 ?_
    refine z_iload_n C dX7_resultBehind_24 rfl 2 rfl ?_
    obtain ⟨v3, hv3, hf⟩ := zbind hf
    refine z_aI C hv3 dX7_resultBehind_25 ?_
    refine z_icmp_ge C 68 dX7_resultBehind_26 (by decide) (fun q8 => ?_) (fun q8 => ?_)
    · rw [if_pos q8] at hf
      cases hf
      refine z_sub [] rfl ?_
      exact hk.2.2 _ rfl
    · rw [if_neg q8] at hf
      refine z_iload_n C dX7_resultBehind_29 rfl 2 rfl ?_
      refine z_iload C dX7_resultBehind_30 4 rfl ?_
      obtain ⟨c4, hc4, hf⟩ := zbind hf
      refine z_callSNi (host := "BarrierFlow") (As := [.int x3, .int u5]) (F0 := 1) (L0 := 21) C (mX9_numberOf l D Ca B En C.2.2.2.2.2.2.2.1 σ N x3 u5 _ hc4) hRm kw_182 kw_1 (by decide) kw_181 hyX9_numberOf (Nat.le_of_ble_eq_true rfl) (Nat.le_of_ble_eq_true rfl) rfl rfl (Nat.le_of_ble_eq_true rfl) dX7_resultBehind_32 ?_
      refine z_istore (lv2 := [(6, .int c4.2), (0, .ref x0), (1, .int x1), (3, .int x3), (4, .int u4), (5, .int u5)]) C dX7_resultBehind_35 (by decide) rfl ?_
      refine z_aload_n C dX7_resultBehind_37 rfl 1 rfl ?_
      refine z_iload C dX7_resultBehind_38 0 rfl ?_
      obtain ⟨c5, hc5, hf⟩ := zbind hf
      obtain ⟨kc5, hc5⟩ := zck_ok hc5
      refine z_callVi (As := [.int c4.2]) (F0 := 1) (L0 := 21) C (mX7_keyOf l D Ca B En C.2.2.2.2.2.2.2.1 c4.1 N x0 c4.2 _ hc5) hRm kc5 rfl kw_638 kw_5 kw_1293 kw_636 kw_637 hyX7_keyOf (Nat.le_of_ble_eq_true rfl) (Nat.le_of_ble_eq_true rfl) rfl rfl (Nat.le_of_ble_eq_true rfl) dX7_resultBehind_40 ?_
      refine z_iload_n C dX7_resultBehind_43 rfl 2 rfl ?_
      refine z_icmp_ne C 62 dX7_resultBehind_44 (by decide) (fun q7 => ?_) (fun q7 => ?_)
      · rw [if_neg q7] at hf
        refine z_sub [1, 2, 3, 4, 5] rfl ?_
        exact wjX7_resultBehind_62_L10 C hRm _ _ _ _ _ _  _ hf hk
      · rw [if_pos q7] at hf
        refine z_iinc (lv2 := [(4, .int (u4 + (zi (-1)))), (6, .int c4.2), (0, .ref x0), (1, .int x1), (3, .int x3), (5, .int u5)]) C (u4 + (zi (-1))) dX7_resultBehind_47 4 rfl rfl (by decide) rfl ?_
        refine z_iload C dX7_resultBehind_50 0 rfl ?_
        refine z_if_ne C 62 dX7_resultBehind_52 (by decide) (fun q6 => ?_) (fun q6 => ?_)
        · rw [if_neg q6] at hf
          refine z_sub [2, 3, 4, 0, 5] rfl ?_
          exact wjX7_resultBehind_62_L10 C hRm _ _ _ _ _ _  _ hf hk
        · rw [if_pos q6] at hf
          cases hf
          refine z_sub [2, 1] rfl ?_
          exact hk.2.1 _ rfl

theorem wsX7_resultBehind_10 (C : zC p s m args meth c cX7_resultBehind RX7 7 D Ca B En) (hRm : zRm R 1 21 cells slots) (x0 : Nat) (x1 : Int32) (x3 : Int32) (n : Nat) (z : (zS × Int32 × Int32)) (x : ((zS × Int32) ⊕ zS)) (hf : zloop (sX7_resultBehind_10 x0 x1 x3) n z = some x) (hk : (∀ o : (zS × Int32), x = (.inl o) → zW p l e R s m args below meth c cells slots Q D Ca B 7 o.1 N 55 [(0, .ref x0), (6, .int o.2)] []) ∧ (∀ o : zS, x = (.inr o) → zW p l e R s m args below meth c cells slots Q D Ca B 7 o N 68 [] [])) : zW p l e R s m args below meth c cells slots Q D Ca B 7 z.1 N 10 [(0, .ref x0), (1, .int x1), (3, .int x3), (4, .int z.2.1), (5, .int z.2.2)] [] := by
  refine zloop_W (P := fun z : (zS × Int32 × Int32) => zW p l e R s m args below meth c cells slots Q D Ca B 7 z.1 N 10 [(0, .ref x0), (1, .int x1), (3, .int x3), (4, .int z.2.1), (5, .int z.2.2)] []) (K := fun x : ((zS × Int32) ⊕ zS) => (∀ o : (zS × Int32), x = (.inl o) → zW p l e R s m args below meth c cells slots Q D Ca B 7 o.1 N 55 [(0, .ref x0), (6, .int o.2)] []) ∧ (∀ o : zS, x = (.inr o) → zW p l e R s m args below meth c cells slots Q D Ca B 7 o N 68 [] [])) ?_ n z x hf hk
  intro z y hy h1 h2
  refine wsX7_resultBehind_10b C hRm x0 x1 x3 z.1 z.2.1 z.2.2 y hy ⟨fun z2 e => h1 z2 e, fun o e => (h2 _ e).1 o rfl, fun o e => (h2 _ e).2 o rfl⟩
set_option maxRecDepth 100000 in
set_option maxHeartbeats 4000000 in
theorem wfX7_resultBehind (C : zC p s m args meth c cX7_resultBehind RX7 7 D Ca B En) (hRm : zRm R 1 21 cells slots) (σ : zS) (x0 : Nat) (x1 : Int32) (x2 : Int32) (τ : zS) (r : Int32) (hf : fX7_resultBehind σ x0 x1 x2 = some (τ, r)) (hq : ∀ (pc : Nat) (lv : List (Nat × Value)), decode cX7_resultBehind pc = .ok (.ireturn, 1) → zW p l e R s m args below meth c cells slots Q D Ca B 7 τ N pc lv [.int r]) : zW p l e R s m args below meth c cells slots Q D Ca B 7 σ N 0 [(0, .ref x0), (1, .int x1), (2, .int x2)] [] := by
  unfold fX7_resultBehind at hf
  refine z_iload_n C dX7_resultBehind_0 rfl 1 rfl ?_
  refine z_iconst C (zi 4) dX7_resultBehind_1 (by decide) ?_
  refine z_irem C dX7_resultBehind_2 (by decide) ?_
  refine z_istore_n (lv2 := [(3, .int (x1 - x1 / ((zi 4)) * ((zi 4)))), (0, .ref x0), (1, .int x1), (2, .int x2)]) C dX7_resultBehind_3 rfl (by decide) rfl ?_
  refine z_iload_n C dX7_resultBehind_4 rfl 3 rfl ?_
  refine z_istore (lv2 := [(4, .int x2), (3, .int (x1 - x1 / ((zi 4)) * ((zi 4)))), (0, .ref x0), (1, .int x1), (2, .int x2)]) C dX7_resultBehind_5 (by decide) rfl ?_
  refine z_iconst C (zi 0) dX7_resultBehind_7 (by decide) ?_
  refine z_istore (lv2 := [(5, .int ((zi 0))), (4, .int x2), (3, .int (x1 - x1 / ((zi 4)) * ((zi 4)))), (0, .ref x0), (1, .int x1), (2, .int x2)]) C dX7_resultBehind_8 (by decide) rfl ?_
  obtain ⟨o10, ho10, hf⟩ := zbind hf
  refine z_sub [3, 4, 2, 1, 0] rfl ?_
  refine wsX7_resultBehind_10 C hRm _ _ _ zfuel (σ, x2, (zi 0)) o10 ho10 ⟨?_, ?_⟩
  · intro z11 e9
    subst e9
    dsimp only at hf
    refine z_aload_n C dX7_resultBehind_55 rfl 0 rfl ?_
    refine z_iload C dX7_resultBehind_56 1 rfl ?_
    obtain ⟨c12, hc12, hf⟩ := zbind hf
    obtain ⟨kc12, hc12⟩ := zck_ok hc12
    refine z_callVi (As := [.int z11.2]) (F0 := 1) (L0 := 21) C (mX7_resultOf l D Ca B En C.2.2.2.2.2.2.2.1 z11.1 N x0 z11.2 _ hc12) hRm kc12 rfl kw_1281 kw_5 kw_1294 kw_1279 kw_1280 hyX7_resultOf (Nat.le_of_ble_eq_true rfl) (Nat.le_of_ble_eq_true rfl) rfl rfl (Nat.le_of_ble_eq_true rfl) dX7_resultBehind_58 ?_
    cases hf
    exact hq _ _ dX7_resultBehind_61
  · intro z13 e9
    subst e9
    dsimp only at hf
    refine z_iconst C (zi (-1)) dX7_resultBehind_68 (by decide) ?_
    cases hf
    exact hq _ _ dX7_resultBehind_69

theorem mX7_resultBehind (l : Launch) (D : va_G) (Ca : Nat → ClassId) (B : Nat) (En : State → Prop) (hE : zEk B En) (σ : zS) (N : Nat) (x0 : Nat) (x1 : Int32) (x2 : Int32) (X : zS × Int32) (hf : fX7_resultBehind σ x0 x1 x2 = some X) : zMi l D Ca B En yX7_resultBehind cX7_resultBehind 7 (Option.some Jvm.ClassFile.FieldType.int) 1 21 [.ref x0, .int x1, .int x2] σ N X.1 X.2 :=
  zMet_i (own := RX7) hE (by decide +kernel) rfl (Nat.le_of_ble_eq_true rfl) (fun p e s m args below meth c C hr hRm => wfX7_resultBehind C hRm σ x0 x1 x2 X.1 X.2 hf (fun pc lv hd => zfin_i C hr hd))
theorem dX9_feed_0 : decode cX9_feed 0 = .ok (.aload_n 0, 1) := by decide +kernel
theorem dX9_feed_1 : decode cX9_feed 1 = .ok (.getfield 12, 3) := by decide +kernel
theorem dX9_feed_4 : decode cX9_feed 4 = .ok (.getfield 67, 3) := by decide +kernel
theorem dX9_feed_7 : decode cX9_feed 7 = .ok (.bipush 20, 2) := by decide +kernel
theorem dX9_feed_9 : decode cX9_feed 9 = .ok (.iadd, 1) := by decide +kernel
theorem dX9_feed_10 : decode cX9_feed 10 = .ok (.sipush 300, 3) := by decide +kernel
theorem dX9_feed_13 : decode cX9_feed 13 = .ok (.if_icmp .le 5, 3) := by decide +kernel
theorem dX9_feed_16 : decode cX9_feed 16 = .ok (.iconst (-1), 1) := by decide +kernel
theorem dX9_feed_17 : decode cX9_feed 17 = .ok (.ireturn, 1) := by decide +kernel
theorem dX9_feed_18 : decode cX9_feed 18 = .ok (.aload_n 0, 1) := by decide +kernel
theorem dX9_feed_19 : decode cX9_feed 19 = .ok (.getfield 12, 3) := by decide +kernel
theorem dX9_feed_22 : decode cX9_feed 22 = .ok (.iload_n 1, 1) := by decide +kernel
theorem dX9_feed_23 : decode cX9_feed 23 = .ok (.invokevirtual 71, 3) := by decide +kernel
theorem dX9_feed_26 : decode cX9_feed 26 = .ok (.aload_n 0, 1) := by decide +kernel
theorem dX9_feed_27 : decode cX9_feed 27 = .ok (.getfield 12, 3) := by decide +kernel
theorem dX9_feed_30 : decode cX9_feed 30 = .ok (.iload_n 2, 1) := by decide +kernel
theorem dX9_feed_31 : decode cX9_feed 31 = .ok (.invokevirtual 71, 3) := by decide +kernel
theorem dX9_feed_34 : decode cX9_feed 34 = .ok (.aload_n 0, 1) := by decide +kernel
theorem dX9_feed_35 : decode cX9_feed 35 = .ok (.getfield 12, 3) := by decide +kernel
theorem dX9_feed_38 : decode cX9_feed 38 = .ok (.iload_n 3, 1) := by decide +kernel
theorem dX9_feed_39 : decode cX9_feed 39 = .ok (.invokevirtual 71, 3) := by decide +kernel
theorem dX9_feed_42 : decode cX9_feed 42 = .ok (.aload_n 0, 1) := by decide +kernel
theorem dX9_feed_43 : decode cX9_feed 43 = .ok (.getfield 12, 3) := by decide +kernel
theorem dX9_feed_46 : decode cX9_feed 46 = .ok (.iload 4, 2) := by decide +kernel
theorem dX9_feed_48 : decode cX9_feed 48 = .ok (.invokevirtual 71, 3) := by decide +kernel
theorem dX9_feed_51 : decode cX9_feed 51 = .ok (.aload_n 0, 1) := by decide +kernel
theorem dX9_feed_52 : decode cX9_feed 52 = .ok (.getfield 12, 3) := by decide +kernel
theorem dX9_feed_55 : decode cX9_feed 55 = .ok (.iload 5, 2) := by decide +kernel
theorem dX9_feed_57 : decode cX9_feed 57 = .ok (.invokevirtual 71, 3) := by decide +kernel
theorem dX9_feed_60 : decode cX9_feed 60 = .ok (.aload_n 0, 1) := by decide +kernel
theorem dX9_feed_61 : decode cX9_feed 61 = .ok (.getfield 12, 3) := by decide +kernel
theorem dX9_feed_64 : decode cX9_feed 64 = .ok (.getfield 67, 3) := by decide +kernel
theorem dX9_feed_67 : decode cX9_feed 67 = .ok (.ireturn, 1) := by decide +kernel
theorem hyX9_feed : yX9_feed.cls ≠ "java/lang/invoke/MethodHandle" ∧ yX9_feed.cls ≠ "java/lang/invoke/VarHandle" ∧ (parseMethodDescriptor yX9_feed.desc).map (fun d => d.parameters.length) = some 5 := ⟨by decide +kernel, by decide +kernel, by decide +kernel⟩
set_option maxRecDepth 100000 in
set_option maxHeartbeats 4000000 in
theorem wfX9_feed (C : zC p s m args meth c cX9_feed RX9 6 D Ca B En) (hRm : zRm R 2 42 cells slots) (σ : zS) (x0 : Nat) (x1 : Int32) (x2 : Int32) (x3 : Int32) (x4 : Int32) (x5 : Int32) (τ : zS) (r : Int32) (hf : fX9_feed σ x0 x1 x2 x3 x4 x5 = some (τ, r)) (hq : ∀ (pc : Nat) (lv : List (Nat × Value)), decode cX9_feed pc = .ok (.ireturn, 1) → zW p l e R s m args below meth c cells slots Q D Ca B 6 τ N pc lv [.int r]) : zW p l e R s m args below meth c cells slots Q D Ca B 6 σ N 0 [(0, .ref x0), (1, .int x1), (2, .int x2), (3, .int x3), (4, .int x4), (5, .int x5)] [] := by
  unfold fX9_feed at hf
  refine z_aload_n C dX9_feed_0 rfl 0 rfl ?_
  obtain ⟨v1, hv1, hf⟩ := zbind hf
  refine gf_RX9_12 C hv1 dX9_feed_1 ?_
  obtain ⟨v2, hv2, hf⟩ := zbind hf
  refine gf_RX9_67 C hv2 dX9_feed_4 ?_
  refine z_bipush C (zi 20) dX9_feed_7 (by decide) ?_
  refine z_iadd C dX9_feed_9 ?_
  refine z_sipush C (zi 300) dX9_feed_10 (by decide) ?_
  refine z_icmp_le C 18 dX9_feed_13 (by decide) (fun q15 => ?_) (fun q15 => ?_)
  · rw [if_pos q15] at hf
    refine z_aload_n C dX9_feed_18 rfl 0 rfl ?_
    obtain ⟨v3, hv3, hf⟩ := zbind hf
    refine gf_RX9_12 C hv3 dX9_feed_19 ?_
    refine z_iload_n C dX9_feed_22 rfl 1 rfl ?_
    obtain ⟨c4, hc4, hf⟩ := zbind hf
    obtain ⟨kc4, hc4⟩ := zck_ok hc4
    refine z_callVv (As := [.int x1]) (F0 := 2) (L0 := 42) C (mX2_addFourBytes l D Ca B En C.2.2.2.2.2.2.2.1 σ N v3 x1 _ hc4) hRm kc4 rfl kw_843 kw_2 kw_840 kw_841 kw_842 hyX2_addFourBytes (Nat.le_of_ble_eq_true rfl) (Nat.le_of_ble_eq_true rfl) rfl rfl (Nat.le_of_ble_eq_true rfl) dX9_feed_23 ?_
    refine z_aload_n C dX9_feed_26 rfl 0 rfl ?_
    obtain ⟨v5, hv5, hf⟩ := zbind hf
    refine gf_RX9_12 C hv5 dX9_feed_27 ?_
    refine z_iload_n C dX9_feed_30 rfl 2 rfl ?_
    obtain ⟨c6, hc6, hf⟩ := zbind hf
    obtain ⟨kc6, hc6⟩ := zck_ok hc6
    refine z_callVv (As := [.int x2]) (F0 := 2) (L0 := 42) C (mX2_addFourBytes l D Ca B En C.2.2.2.2.2.2.2.1 c4 N v5 x2 _ hc6) hRm kc6 rfl kw_843 kw_2 kw_840 kw_841 kw_842 hyX2_addFourBytes (Nat.le_of_ble_eq_true rfl) (Nat.le_of_ble_eq_true rfl) rfl rfl (Nat.le_of_ble_eq_true rfl) dX9_feed_31 ?_
    refine z_aload_n C dX9_feed_34 rfl 0 rfl ?_
    obtain ⟨v7, hv7, hf⟩ := zbind hf
    refine gf_RX9_12 C hv7 dX9_feed_35 ?_
    refine z_iload_n C dX9_feed_38 rfl 3 rfl ?_
    obtain ⟨c8, hc8, hf⟩ := zbind hf
    obtain ⟨kc8, hc8⟩ := zck_ok hc8
    refine z_callVv (As := [.int x3]) (F0 := 2) (L0 := 42) C (mX2_addFourBytes l D Ca B En C.2.2.2.2.2.2.2.1 c6 N v7 x3 _ hc8) hRm kc8 rfl kw_843 kw_2 kw_840 kw_841 kw_842 hyX2_addFourBytes (Nat.le_of_ble_eq_true rfl) (Nat.le_of_ble_eq_true rfl) rfl rfl (Nat.le_of_ble_eq_true rfl) dX9_feed_39 ?_
    refine z_aload_n C dX9_feed_42 rfl 0 rfl ?_
    obtain ⟨v9, hv9, hf⟩ := zbind hf
    refine gf_RX9_12 C hv9 dX9_feed_43 ?_
    refine z_iload C dX9_feed_46 4 rfl ?_
    obtain ⟨c10, hc10, hf⟩ := zbind hf
    obtain ⟨kc10, hc10⟩ := zck_ok hc10
    refine z_callVv (As := [.int x4]) (F0 := 2) (L0 := 42) C (mX2_addFourBytes l D Ca B En C.2.2.2.2.2.2.2.1 c8 N v9 x4 _ hc10) hRm kc10 rfl kw_843 kw_2 kw_840 kw_841 kw_842 hyX2_addFourBytes (Nat.le_of_ble_eq_true rfl) (Nat.le_of_ble_eq_true rfl) rfl rfl (Nat.le_of_ble_eq_true rfl) dX9_feed_48 ?_
    refine z_aload_n C dX9_feed_51 rfl 0 rfl ?_
    obtain ⟨v11, hv11, hf⟩ := zbind hf
    refine gf_RX9_12 C hv11 dX9_feed_52 ?_
    refine z_iload C dX9_feed_55 5 rfl ?_
    obtain ⟨c12, hc12, hf⟩ := zbind hf
    obtain ⟨kc12, hc12⟩ := zck_ok hc12
    refine z_callVv (As := [.int x5]) (F0 := 2) (L0 := 42) C (mX2_addFourBytes l D Ca B En C.2.2.2.2.2.2.2.1 c10 N v11 x5 _ hc12) hRm kc12 rfl kw_843 kw_2 kw_840 kw_841 kw_842 hyX2_addFourBytes (Nat.le_of_ble_eq_true rfl) (Nat.le_of_ble_eq_true rfl) rfl rfl (Nat.le_of_ble_eq_true rfl) dX9_feed_57 ?_
    refine z_aload_n C dX9_feed_60 rfl 0 rfl ?_
    obtain ⟨v13, hv13, hf⟩ := zbind hf
    refine gf_RX9_12 C hv13 dX9_feed_61 ?_
    obtain ⟨v14, hv14, hf⟩ := zbind hf
    refine gf_RX9_67 C hv14 dX9_feed_64 ?_
    cases hf
    exact hq _ _ dX9_feed_67
  · rw [if_neg q15] at hf
    refine z_iconst C (zi (-1)) dX9_feed_16 (by decide) ?_
    cases hf
    exact hq _ _ dX9_feed_17

theorem mX9_feed (l : Launch) (D : va_G) (Ca : Nat → ClassId) (B : Nat) (En : State → Prop) (hE : zEk B En) (σ : zS) (N : Nat) (x0 : Nat) (x1 : Int32) (x2 : Int32) (x3 : Int32) (x4 : Int32) (x5 : Int32) (X : zS × Int32) (hf : fX9_feed σ x0 x1 x2 x3 x4 x5 = some X) : zMi l D Ca B En yX9_feed cX9_feed 6 (Option.some Jvm.ClassFile.FieldType.int) 2 42 [.ref x0, .int x1, .int x2, .int x3, .int x4, .int x5] σ N X.1 X.2 :=
  zMet_i (own := RX9) hE (by decide +kernel) rfl (Nat.le_of_ble_eq_true rfl) (fun p e s m args below meth c C hr hRm => wfX9_feed C hRm σ x0 x1 x2 x3 x4 x5 X.1 X.2 hf (fun pc lv hd => zfin_i C hr hd))
theorem dX9_truncate_0 : decode cX9_truncate 0 = .ok (.iload_n 1, 1) := by decide +kernel
theorem dX9_truncate_1 : decode cX9_truncate 1 = .ok (.ifCond .lt 14, 3) := by decide +kernel
theorem dX9_truncate_4 : decode cX9_truncate 4 = .ok (.iload_n 1, 1) := by decide +kernel
theorem dX9_truncate_5 : decode cX9_truncate 5 = .ok (.aload_n 0, 1) := by decide +kernel
theorem dX9_truncate_6 : decode cX9_truncate 6 = .ok (.getfield 12, 3) := by decide +kernel
theorem dX9_truncate_9 : decode cX9_truncate 9 = .ok (.getfield 67, 3) := by decide +kernel
theorem dX9_truncate_12 : decode cX9_truncate 12 = .ok (.if_icmp .le 5, 3) := by decide +kernel
theorem dX9_truncate_15 : decode cX9_truncate 15 = .ok (.iconst 0, 1) := by decide +kernel
theorem dX9_truncate_16 : decode cX9_truncate 16 = .ok (.ireturn, 1) := by decide +kernel
theorem dX9_truncate_17 : decode cX9_truncate 17 = .ok (.aload_n 0, 1) := by decide +kernel
theorem dX9_truncate_18 : decode cX9_truncate 18 = .ok (.getfield 12, 3) := by decide +kernel
theorem dX9_truncate_21 : decode cX9_truncate 21 = .ok (.iload_n 1, 1) := by decide +kernel
theorem dX9_truncate_22 : decode cX9_truncate 22 = .ok (.putfield 67, 3) := by decide +kernel
theorem dX9_truncate_25 : decode cX9_truncate 25 = .ok (.iconst 1, 1) := by decide +kernel
theorem dX9_truncate_26 : decode cX9_truncate 26 = .ok (.ireturn, 1) := by decide +kernel
theorem hyX9_truncate : yX9_truncate.cls ≠ "java/lang/invoke/MethodHandle" ∧ yX9_truncate.cls ≠ "java/lang/invoke/VarHandle" ∧ (parseMethodDescriptor yX9_truncate.desc).map (fun d => d.parameters.length) = some 1 := ⟨by decide +kernel, by decide +kernel, by decide +kernel⟩
set_option maxRecDepth 100000 in
set_option maxHeartbeats 4000000 in
theorem wfX9_truncate (C : zC p s m args meth c cX9_truncate RX9 2 D Ca B En) (hRm : zRm R 0 0 cells slots) (σ : zS) (x0 : Nat) (x1 : Int32) (τ : zS) (r : Int32) (hf : fX9_truncate σ x0 x1 = some (τ, r)) (hq : ∀ (pc : Nat) (lv : List (Nat × Value)), (r = 0 ∨ r = 1) → decode cX9_truncate pc = .ok (.ireturn, 1) → zW p l e R s m args below meth c cells slots Q D Ca B 2 τ N pc lv [.int r]) : zW p l e R s m args below meth c cells slots Q D Ca B 2 σ N 0 [(0, .ref x0), (1, .int x1)] [] := by
  unfold fX9_truncate at hf
  refine z_iload_n C dX9_truncate_0 rfl 1 rfl ?_
  refine z_if_lt C 15 dX9_truncate_1 (by decide) (fun q6 => ?_) (fun q6 => ?_)
  · rw [if_pos q6] at hf
    refine z_iconst C (zi 0) dX9_truncate_15 (by decide) ?_
    obtain ⟨e9, b9⟩ := zrZ_ok hf
    cases e9
    exact hq _ _ b9 dX9_truncate_16
  · rw [if_neg q6] at hf
    refine z_iload_n C dX9_truncate_4 rfl 1 rfl ?_
    refine z_aload_n C dX9_truncate_5 rfl 0 rfl ?_
    obtain ⟨v1, hv1, hf⟩ := zbind hf
    refine gf_RX9_12 C hv1 dX9_truncate_6 ?_
    obtain ⟨v2, hv2, hf⟩ := zbind hf
    refine gf_RX9_67 C hv2 dX9_truncate_9 ?_
    refine z_icmp_le C 17 dX9_truncate_12 (by decide) (fun q5 => ?_) (fun q5 => ?_)
    · rw [if_pos q5] at hf
      refine z_aload_n C dX9_truncate_17 rfl 0 rfl ?_
      obtain ⟨v3, hv3, hf⟩ := zbind hf
      refine gf_RX9_12 C hv3 dX9_truncate_18 ?_
      refine z_iload_n C dX9_truncate_21 rfl 1 rfl ?_
      obtain ⟨σ4, hσ4, hf⟩ := zbind hf
      refine gp_RX9_67 C hσ4 dX9_truncate_22 ?_
      refine z_iconst C (zi 1) dX9_truncate_25 (by decide) ?_
      obtain ⟨e9, b9⟩ := zrZ_ok hf
      cases e9
      exact hq _ _ b9 dX9_truncate_26
    · rw [if_neg q5] at hf
      refine z_iconst C (zi 0) dX9_truncate_15 (by decide) ?_
      obtain ⟨e9, b9⟩ := zrZ_ok hf
      cases e9
      exact hq _ _ b9 dX9_truncate_16

theorem mX9_truncate (l : Launch) (D : va_G) (Ca : Nat → ClassId) (B : Nat) (En : State → Prop) (hE : zEk B En) (σ : zS) (N : Nat) (x0 : Nat) (x1 : Int32) (X : zS × Int32) (hf : fX9_truncate σ x0 x1 = some X) : zMi l D Ca B En yX9_truncate cX9_truncate 2 (Option.some Jvm.ClassFile.FieldType.boolean) 0 0 [.ref x0, .int x1] σ N X.1 X.2 :=
  zMet_i (own := RX9) hE (by decide +kernel) rfl (Nat.le_of_ble_eq_true rfl) (fun p e s m args below meth c C hr hRm => wfX9_truncate C hRm σ x0 x1 X.1 X.2 hf (fun pc lv hb hd => zfin_z C hb hr hd))
theorem dX9_parse_0 : decode cX9_parse 0 = .ok (.aload_n 0, 1) := by decide +kernel
theorem dX9_parse_1 : decode cX9_parse 1 = .ok (.getfield 21, 3) := by decide +kernel
theorem dX9_parse_4 : decode cX9_parse 4 = .ok (.aload_n 0, 1) := by decide +kernel
theorem dX9_parse_5 : decode cX9_parse 5 = .ok (.getfield 39, 3) := by decide +kernel
theorem dX9_parse_8 : decode cX9_parse 8 = .ok (.invokevirtual 75, 3) := by decide +kernel
theorem dX9_parse_11 : decode cX9_parse 11 = .ok (.istore_n 1, 1) := by decide +kernel
theorem dX9_parse_12 : decode cX9_parse 12 = .ok (.aload_n 0, 1) := by decide +kernel
theorem dX9_parse_13 : decode cX9_parse 13 = .ok (.getfield 12, 3) := by decide +kernel
theorem dX9_parse_16 : decode cX9_parse 16 = .ok (.iconst 0, 1) := by decide +kernel
theorem dX9_parse_17 : decode cX9_parse 17 = .ok (.putfield 67, 3) := by decide +kernel
theorem dX9_parse_20 : decode cX9_parse 20 = .ok (.iload_n 1, 1) := by decide +kernel
theorem dX9_parse_21 : decode cX9_parse 21 = .ok (.ifCond .ne 5, 3) := by decide +kernel
theorem dX9_parse_24 : decode cX9_parse 24 = .ok (.iconst (-1), 1) := by decide +kernel
theorem dX9_parse_25 : decode cX9_parse 25 = .ok (.ireturn, 1) := by decide +kernel
theorem dX9_parse_26 : decode cX9_parse 26 = .ok (.aload_n 0, 1) := by decide +kernel
theorem dX9_parse_27 : decode cX9_parse 27 = .ok (.getfield 35, 3) := by decide +kernel
theorem dX9_parse_30 : decode cX9_parse 30 = .ok (.astore_n 2, 1) := by decide +kernel
theorem dX9_parse_31 : decode cX9_parse 31 = .ok (.aload_n 0, 1) := by decide +kernel
theorem dX9_parse_32 : decode cX9_parse 32 = .ok (.aload_n 0, 1) := by decide +kernel
theorem dX9_parse_33 : decode cX9_parse 33 = .ok (.getfield 39, 3) := by decide +kernel
theorem dX9_parse_36 : decode cX9_parse 36 = .ok (.putfield 35, 3) := by decide +kernel
theorem dX9_parse_39 : decode cX9_parse 39 = .ok (.aload_n 0, 1) := by decide +kernel
theorem dX9_parse_40 : decode cX9_parse 40 = .ok (.aload_n 2, 1) := by decide +kernel
theorem dX9_parse_41 : decode cX9_parse 41 = .ok (.putfield 39, 3) := by decide +kernel
theorem dX9_parse_44 : decode cX9_parse 44 = .ok (.aload_n 0, 1) := by decide +kernel
theorem dX9_parse_45 : decode cX9_parse 45 = .ok (.getfield 50, 3) := by decide +kernel
theorem dX9_parse_48 : decode cX9_parse 48 = .ok (.aload_n 0, 1) := by decide +kernel
theorem dX9_parse_49 : decode cX9_parse 49 = .ok (.getfield 35, 3) := by decide +kernel
theorem dX9_parse_52 : decode cX9_parse 52 = .ok (.invokevirtual 79, 3) := by decide +kernel
theorem dX9_parse_55 : decode cX9_parse 55 = .ok (.aload_n 0, 1) := by decide +kernel
theorem dX9_parse_56 : decode cX9_parse 56 = .ok (.getfield 63, 3) := by decide +kernel
theorem dX9_parse_59 : decode cX9_parse 59 = .ok (.invokevirtual 82, 3) := by decide +kernel
theorem dX9_parse_62 : decode cX9_parse 62 = .ok (.aload_n 0, 1) := by decide +kernel
theorem dX9_parse_63 : decode cX9_parse 63 = .ok (.iconst 0, 1) := by decide +kernel
theorem dX9_parse_64 : decode cX9_parse 64 = .ok (.putfield 85, 3) := by decide +kernel
theorem dX9_parse_67 : decode cX9_parse 67 = .ok (.aload_n 0, 1) := by decide +kernel
theorem dX9_parse_68 : decode cX9_parse 68 = .ok (.getfield 35, 3) := by decide +kernel
theorem dX9_parse_71 : decode cX9_parse 71 = .ok (.getfield 89, 3) := by decide +kernel
theorem dX9_parse_74 : decode cX9_parse 74 = .ok (.ireturn, 1) := by decide +kernel
theorem hyX9_parse : yX9_parse.cls ≠ "java/lang/invoke/MethodHandle" ∧ yX9_parse.cls ≠ "java/lang/invoke/VarHandle" ∧ (parseMethodDescriptor yX9_parse.desc).map (fun d => d.parameters.length) = some 0 := ⟨by decide +kernel, by decide +kernel, by decide +kernel⟩
set_option maxRecDepth 100000 in
set_option maxHeartbeats 4000000 in
theorem wfX9_parse (C : zC p s m args meth c cX9_parse RX9 3 D Ca B En) (hRm : zRm R 10 216 cells slots) (ev : zEv) (hZ : ∀ U : State, En U → zEnv ev B U) (σ : zS) (x0 : Nat) (τ : zS) (r : Int32) (hf : fX9_parse σ x0 = some (τ, r)) (hq : ∀ (pc : Nat) (lv : List (Nat × Value)), decode cX9_parse pc = .ok (.ireturn, 1) → zW p l e R s m args below meth c cells slots Q D Ca B 3 τ N pc lv [.int r]) : zW p l e R s m args below meth c cells slots Q D Ca B 3 σ N 0 [(0, .ref x0)] [] := by
  unfold fX9_parse at hf
  refine z_aload_n C dX9_parse_0 rfl 0 rfl ?_
  obtain ⟨v1, hv1, hf⟩ := zbind hf
  refine gf_RX9_21 C hv1 dX9_parse_1 ?_
  refine z_aload_n C dX9_parse_4 rfl 0 rfl ?_
  obtain ⟨v2, hv2, hf⟩ := zbind hf
  refine gf_RX9_39 C hv2 dX9_parse_5 ?_
  obtain ⟨c3, hc3, hf⟩ := zbind hf
  obtain ⟨kc3, hc3⟩ := zck_ok hc3
  refine z_callVi (As := [.ref v2]) (F0 := 10) (L0 := 216) C (mX5_read l D Ca B En C.2.2.2.2.2.2.2.1 ev hZ σ N v1 v2 _ hc3) hRm kc3 rfl kw_859 kw_3 kw_856 kw_857 kw_858 hyX5_read (Nat.le_of_ble_eq_true rfl) (Nat.le_of_ble_eq_true rfl) rfl rfl (Nat.le_of_ble_eq_true rfl) dX9_parse_8 ?_
  refine z_istore_n (lv2 := [(1, .int c3.2), (0, .ref x0)]) C dX9_parse_11 rfl (by decide) rfl ?_
  refine z_aload_n C dX9_parse_12 rfl 1 rfl ?_
  obtain ⟨v4, hv4, hf⟩ := zbind hf
  refine gf_RX9_12 C hv4 dX9_parse_13 ?_
  refine z_iconst C (zi 0) dX9_parse_16 (by decide) ?_
  obtain ⟨σ5, hσ5, hf⟩ := zbind hf
  refine gp_RX9_67 C hσ5 dX9_parse_17 ?_
  refine z_iload_n C dX9_parse_20 rfl 0 rfl ?_
  refine z_if_ne C 26 dX9_parse_21 (by decide) (fun q18 => ?_) (fun q18 => ?_)
  · rw [if_neg q18] at hf
    refine z_aload_n C dX9_parse_26 rfl 1 rfl ?_
    obtain ⟨v6, hv6, hf⟩ := zbind hf
    refine gf_RX9_35 C hv6 dX9_parse_27 ?_
    refine z_astore_n (lv2 := [(2, .ref v6), (1, .int c3.2), (0, .ref x0)]) C dX9_parse_30 rfl (by decide) rfl ?_
    refine z_aload_n C dX9_parse_31 rfl 2 rfl ?_
    refine z_aload_n C dX9_parse_32 rfl 2 rfl ?_
    obtain ⟨v7, hv7, hf⟩ := zbind hf
    refine gf_RX9_39 C hv7 dX9_parse_33 ?_
    obtain ⟨σ8, hσ8, hf⟩ := zbind hf
    refine gp_RX9_35 C hσ8 dX9_parse_36 ?_
    refine z_aload_n C dX9_parse_39 rfl 2 rfl ?_
    refine z_aload_n C dX9_parse_40 rfl 0 rfl ?_
    obtain ⟨σ9, hσ9, hf⟩ := zbind hf
    refine gp_RX9_39 C hσ9 dX9_parse_41 ?_
    refine z_aload_n C dX9_parse_44 rfl 2 rfl ?_
    obtain ⟨v10, hv10, hf⟩ := zbind hf
    refine gf_RX9_50 C hv10 dX9_parse_45 ?_
    refine z_aload_n C dX9_parse_48 rfl 2 rfl ?_
    obtain ⟨v11, hv11, hf⟩ := zbind hf
    refine gf_RX9_35 C hv11 dX9_parse_49 ?_
    obtain ⟨c12, hc12, hf⟩ := zbind hf
    obtain ⟨kc12, hc12⟩ := zck_ok hc12
    refine z_callVv (As := [.ref v11]) (F0 := 10) (L0 := 216) C (mX1_start l D Ca B En C.2.2.2.2.2.2.2.1 ev hZ σ9 N v10 v11 _ hc12) hRm kc12 rfl kw_285 kw_8 kw_940 kw_283 kw_284 hyX1_start (Nat.le_of_ble_eq_true rfl) (Nat.le_of_ble_eq_true rfl) rfl rfl (Nat.le_of_ble_eq_true rfl) dX9_parse_52 ?_
    refine z_aload_n C dX9_parse_55 rfl 2 rfl ?_
    obtain ⟨v13, hv13, hf⟩ := zbind hf
    refine gf_RX9_63 C hv13 dX9_parse_56 ?_
    obtain ⟨c14, hc14, hf⟩ := zbind hf
    obtain ⟨kc14, hc14⟩ := zck_ok hc14
    refine z_callVv (As := []) (F0 := 10) (L0 := 216) C (mX6_forget l D Ca B En C.2.2.2.2.2.2.2.1 c12 N v13  _ hc14) hRm kc14 rfl kw_773 kw_13 kw_770 kw_771 kw_772 hyX6_forget (Nat.le_of_ble_eq_true rfl) (Nat.le_of_ble_eq_true rfl) rfl rfl (Nat.le_of_ble_eq_true rfl) dX9_parse_59 ?_
    refine z_aload_n C dX9_parse_62 rfl 2 rfl ?_
    refine z_iconst C (zi 0) dX9_parse_63 (by decide) ?_
    obtain ⟨σ15, hσ15, hf⟩ := zbind hf
    refine gp_RX9_85 C hσ15 dX9_parse_64 ?_
    refine z_aload_n C dX9_parse_67 rfl 2 rfl ?_
    obtain ⟨v16, hv16, hf⟩ := zbind hf
    refine gf_RX9_35 C hv16 dX9_parse_68 ?_
    obtain ⟨v17, hv17, hf⟩ := zbind hf
    refine gf_RX9_89 C hv17 dX9_parse_71 ?_
    cases hf
    exact hq _ _ dX9_parse_74
  · rw [if_pos q18] at hf
    refine z_iconst C (zi (-1)) dX9_parse_24 (by decide) ?_
    cases hf
    exact hq _ _ dX9_parse_25

theorem mX9_parse (l : Launch) (D : va_G) (Ca : Nat → ClassId) (B : Nat) (En : State → Prop) (hE : zEk B En) (ev : zEv) (hZ : ∀ U : State, En U → zEnv ev B U) (σ : zS) (N : Nat) (x0 : Nat) (X : zS × Int32) (hf : fX9_parse σ x0 = some X) : zMi l D Ca B En yX9_parse cX9_parse 3 (Option.some Jvm.ClassFile.FieldType.int) 10 216 [.ref x0] σ N X.1 X.2 :=
  zMet_i (own := RX9) hE (by decide +kernel) rfl (Nat.le_of_ble_eq_true rfl) (fun p e s m args below meth c C hr hRm => wfX9_parse C hRm ev hZ σ x0 X.1 X.2 hf (fun pc lv hd => zfin_i C hr hd))
theorem dX9_count_0 : decode cX9_count 0 = .ok (.iload_n 1, 1) := by decide +kernel
theorem dX9_count_1 : decode cX9_count 1 = .ok (.tableswitch 167 0 11 #[63, 71, 79, 87, 95, 103, 111, 119, 127, 135, 143, 151], 63) := by decide +kernel
theorem dX9_count_64 : decode cX9_count 64 = .ok (.aload_n 0, 1) := by decide +kernel
theorem dX9_count_65 : decode cX9_count 65 = .ok (.getfield 35, 3) := by decide +kernel
theorem dX9_count_68 : decode cX9_count 68 = .ok (.getfield 89, 3) := by decide +kernel
theorem dX9_count_71 : decode cX9_count 71 = .ok (.ireturn, 1) := by decide +kernel
theorem dX9_count_72 : decode cX9_count 72 = .ok (.aload_n 0, 1) := by decide +kernel
theorem dX9_count_73 : decode cX9_count 73 = .ok (.getfield 50, 3) := by decide +kernel
theorem dX9_count_76 : decode cX9_count 76 = .ok (.getfield 98, 3) := by decide +kernel
theorem dX9_count_79 : decode cX9_count 79 = .ok (.ireturn, 1) := by decide +kernel
theorem dX9_count_80 : decode cX9_count 80 = .ok (.aload_n 0, 1) := by decide +kernel
theorem dX9_count_81 : decode cX9_count 81 = .ok (.getfield 35, 3) := by decide +kernel
theorem dX9_count_84 : decode cX9_count 84 = .ok (.getfield 101, 3) := by decide +kernel
theorem dX9_count_87 : decode cX9_count 87 = .ok (.ireturn, 1) := by decide +kernel
theorem dX9_count_88 : decode cX9_count 88 = .ok (.aload_n 0, 1) := by decide +kernel
theorem dX9_count_89 : decode cX9_count 89 = .ok (.getfield 50, 3) := by decide +kernel
theorem dX9_count_92 : decode cX9_count 92 = .ok (.getfield 104, 3) := by decide +kernel
theorem dX9_count_95 : decode cX9_count 95 = .ok (.ireturn, 1) := by decide +kernel
theorem dX9_count_96 : decode cX9_count 96 = .ok (.aload_n 0, 1) := by decide +kernel
theorem dX9_count_97 : decode cX9_count 97 = .ok (.getfield 50, 3) := by decide +kernel
theorem dX9_count_100 : decode cX9_count 100 = .ok (.getfield 107, 3) := by decide +kernel
theorem dX9_count_103 : decode cX9_count 103 = .ok (.ireturn, 1) := by decide +kernel
theorem dX9_count_104 : decode cX9_count 104 = .ok (.aload_n 0, 1) := by decide +kernel
theorem dX9_count_105 : decode cX9_count 105 = .ok (.getfield 50, 3) := by decide +kernel
theorem dX9_count_108 : decode cX9_count 108 = .ok (.getfield 110, 3) := by decide +kernel
theorem dX9_count_111 : decode cX9_count 111 = .ok (.ireturn, 1) := by decide +kernel
theorem dX9_count_112 : decode cX9_count 112 = .ok (.aload_n 0, 1) := by decide +kernel
theorem dX9_count_113 : decode cX9_count 113 = .ok (.getfield 50, 3) := by decide +kernel
theorem dX9_count_116 : decode cX9_count 116 = .ok (.getfield 113, 3) := by decide +kernel
theorem dX9_count_119 : decode cX9_count 119 = .ok (.ireturn, 1) := by decide +kernel
theorem dX9_count_120 : decode cX9_count 120 = .ok (.aload_n 0, 1) := by decide +kernel
theorem dX9_count_121 : decode cX9_count 121 = .ok (.getfield 50, 3) := by decide +kernel
theorem dX9_count_124 : decode cX9_count 124 = .ok (.getfield 116, 3) := by decide +kernel
theorem dX9_count_127 : decode cX9_count 127 = .ok (.ireturn, 1) := by decide +kernel
theorem dX9_count_128 : decode cX9_count 128 = .ok (.aload_n 0, 1) := by decide +kernel
theorem dX9_count_129 : decode cX9_count 129 = .ok (.getfield 50, 3) := by decide +kernel
theorem dX9_count_132 : decode cX9_count 132 = .ok (.getfield 119, 3) := by decide +kernel
theorem dX9_count_135 : decode cX9_count 135 = .ok (.ireturn, 1) := by decide +kernel
theorem dX9_count_136 : decode cX9_count 136 = .ok (.aload_n 0, 1) := by decide +kernel
theorem dX9_count_137 : decode cX9_count 137 = .ok (.getfield 50, 3) := by decide +kernel
theorem dX9_count_140 : decode cX9_count 140 = .ok (.getfield 122, 3) := by decide +kernel
theorem dX9_count_143 : decode cX9_count 143 = .ok (.ireturn, 1) := by decide +kernel
theorem dX9_count_144 : decode cX9_count 144 = .ok (.aload_n 0, 1) := by decide +kernel
theorem dX9_count_145 : decode cX9_count 145 = .ok (.getfield 63, 3) := by decide +kernel
theorem dX9_count_148 : decode cX9_count 148 = .ok (.getfield 125, 3) := by decide +kernel
theorem dX9_count_151 : decode cX9_count 151 = .ok (.ireturn, 1) := by decide +kernel
theorem dX9_count_152 : decode cX9_count 152 = .ok (.aload_n 0, 1) := by decide +kernel
theorem dX9_count_153 : decode cX9_count 153 = .ok (.getfield 50, 3) := by decide +kernel
theorem dX9_count_156 : decode cX9_count 156 = .ok (.getfield 128, 3) := by decide +kernel
theorem dX9_count_159 : decode cX9_count 159 = .ok (.ifCond .eq 7, 3) := by decide +kernel
theorem dX9_count_162 : decode cX9_count 162 = .ok (.iconst 1, 1) := by decide +kernel
theorem dX9_count_163 : decode cX9_count 163 = .ok (.goto 4, 3) := by decide +kernel
theorem dX9_count_166 : decode cX9_count 166 = .ok (.iconst 0, 1) := by decide +kernel
theorem dX9_count_167 : decode cX9_count 167 = .ok (.ireturn, 1) := by decide +kernel
theorem dX9_count_168 : decode cX9_count 168 = .ok (.iconst (-1), 1) := by decide +kernel
theorem dX9_count_169 : decode cX9_count 169 = .ok (.ireturn, 1) := by decide +kernel
theorem hyX9_count : yX9_count.cls ≠ "java/lang/invoke/MethodHandle" ∧ yX9_count.cls ≠ "java/lang/invoke/VarHandle" ∧ (parseMethodDescriptor yX9_count.desc).map (fun d => d.parameters.length) = some 1 := ⟨by decide +kernel, by decide +kernel, by decide +kernel⟩
set_option maxRecDepth 100000 in
set_option maxHeartbeats 4000000 in
theorem wfX9_count (C : zC p s m args meth c cX9_count RX9 2 D Ca B En) (hRm : zRm R 0 0 cells slots) (σ : zS) (x0 : Nat) (x1 : Int32) (τ : zS) (r : Int32) (hf : fX9_count σ x0 x1 = some (τ, r)) (hq : ∀ (pc : Nat) (lv : List (Nat × Value)), decode cX9_count pc = .ok (.ireturn, 1) → zW p l e R s m args below meth c cells slots Q D Ca B 2 τ N pc lv [.int r]) : zW p l e R s m args below meth c cells slots Q D Ca B 2 σ N 0 [(0, .ref x0), (1, .int x1)] [] := by
  unfold fX9_count at hf
  refine z_iload_n C dX9_count_0 rfl 1 rfl ?_
  by_cases q1 : x1 = (zi 0)
  · rw [if_pos q1] at hf
    refine z_tableIn C 64 dX9_count_1 (by rw [q1]; decide) (by rw [q1]; decide) (by rw [q1]; rfl) (by decide) ?_
    refine z_aload_n C dX9_count_64 rfl 0 rfl ?_
    obtain ⟨v2, hv2, hf⟩ := zbind hf
    refine gf_RX9_35 C hv2 dX9_count_65 ?_
    obtain ⟨v3, hv3, hf⟩ := zbind hf
    refine gf_RX9_89 C hv3 dX9_count_68 ?_
    cases hf
    exact hq _ _ dX9_count_71
  · rw [if_neg q1] at hf
    by_cases q4 : x1 = (zi 1)
    · rw [if_pos q4] at hf
      refine z_tableIn C 72 dX9_count_1 (by rw [q4]; decide) (by rw [q4]; decide) (by rw [q4]; rfl) (by decide) ?_
      refine z_aload_n C dX9_count_72 rfl 0 rfl ?_
      obtain ⟨v5, hv5, hf⟩ := zbind hf
      refine gf_RX9_50 C hv5 dX9_count_73 ?_
      obtain ⟨v6, hv6, hf⟩ := zbind hf
      refine gf_RX9_98 C hv6 dX9_count_76 ?_
      cases hf
      exact hq _ _ dX9_count_79
    · rw [if_neg q4] at hf
      by_cases q7 : x1 = (zi 2)
      · rw [if_pos q7] at hf
        refine z_tableIn C 80 dX9_count_1 (by rw [q7]; decide) (by rw [q7]; decide) (by rw [q7]; rfl) (by decide) ?_
        refine z_aload_n C dX9_count_80 rfl 0 rfl ?_
        obtain ⟨v8, hv8, hf⟩ := zbind hf
        refine gf_RX9_35 C hv8 dX9_count_81 ?_
        obtain ⟨v9, hv9, hf⟩ := zbind hf
        refine gf_RX9_101 C hv9 dX9_count_84 ?_
        cases hf
        exact hq _ _ dX9_count_87
      · rw [if_neg q7] at hf
        by_cases q10 : x1 = (zi 3)
        · rw [if_pos q10] at hf
          refine z_tableIn C 88 dX9_count_1 (by rw [q10]; decide) (by rw [q10]; decide) (by rw [q10]; rfl) (by decide) ?_
          refine z_aload_n C dX9_count_88 rfl 0 rfl ?_
          obtain ⟨v11, hv11, hf⟩ := zbind hf
          refine gf_RX9_50 C hv11 dX9_count_89 ?_
          obtain ⟨v12, hv12, hf⟩ := zbind hf
          refine gf_RX9_104 C hv12 dX9_count_92 ?_
          cases hf
          exact hq _ _ dX9_count_95
        · rw [if_neg q10] at hf
          by_cases q13 : x1 = (zi 4)
          · rw [if_pos q13] at hf
            refine z_tableIn C 96 dX9_count_1 (by rw [q13]; decide) (by rw [q13]; decide) (by rw [q13]; rfl) (by decide) ?_
            refine z_aload_n C dX9_count_96 rfl 0 rfl ?_
            obtain ⟨v14, hv14, hf⟩ := zbind hf
            refine gf_RX9_50 C hv14 dX9_count_97 ?_
            obtain ⟨v15, hv15, hf⟩ := zbind hf
            refine gf_RX9_107 C hv15 dX9_count_100 ?_
            cases hf
            exact hq _ _ dX9_count_103
          · rw [if_neg q13] at hf
            by_cases q16 : x1 = (zi 5)
            · rw [if_pos q16] at hf
              refine z_tableIn C 104 dX9_count_1 (by rw [q16]; decide) (by rw [q16]; decide) (by rw [q16]; rfl) (by decide) ?_
              refine z_aload_n C dX9_count_104 rfl 0 rfl ?_
              obtain ⟨v17, hv17, hf⟩ := zbind hf
              refine gf_RX9_50 C hv17 dX9_count_105 ?_
              obtain ⟨v18, hv18, hf⟩ := zbind hf
              refine gf_RX9_110 C hv18 dX9_count_108 ?_
              cases hf
              exact hq _ _ dX9_count_111
            · rw [if_neg q16] at hf
              by_cases q19 : x1 = (zi 6)
              · rw [if_pos q19] at hf
                refine z_tableIn C 112 dX9_count_1 (by rw [q19]; decide) (by rw [q19]; decide) (by rw [q19]; rfl) (by decide) ?_
                refine z_aload_n C dX9_count_112 rfl 0 rfl ?_
                obtain ⟨v20, hv20, hf⟩ := zbind hf
                refine gf_RX9_50 C hv20 dX9_count_113 ?_
                obtain ⟨v21, hv21, hf⟩ := zbind hf
                refine gf_RX9_113 C hv21 dX9_count_116 ?_
                cases hf
                exact hq _ _ dX9_count_119
              · rw [if_neg q19] at hf
                by_cases q22 : x1 = (zi 7)
                · rw [if_pos q22] at hf
                  refine z_tableIn C 120 dX9_count_1 (by rw [q22]; decide) (by rw [q22]; decide) (by rw [q22]; rfl) (by decide) ?_
                  refine z_aload_n C dX9_count_120 rfl 0 rfl ?_
                  obtain ⟨v23, hv23, hf⟩ := zbind hf
                  refine gf_RX9_50 C hv23 dX9_count_121 ?_
                  obtain ⟨v24, hv24, hf⟩ := zbind hf
                  refine gf_RX9_116 C hv24 dX9_count_124 ?_
                  cases hf
                  exact hq _ _ dX9_count_127
                · rw [if_neg q22] at hf
                  by_cases q25 : x1 = (zi 8)
                  · rw [if_pos q25] at hf
                    refine z_tableIn C 128 dX9_count_1 (by rw [q25]; decide) (by rw [q25]; decide) (by rw [q25]; rfl) (by decide) ?_
                    refine z_aload_n C dX9_count_128 rfl 0 rfl ?_
                    obtain ⟨v26, hv26, hf⟩ := zbind hf
                    refine gf_RX9_50 C hv26 dX9_count_129 ?_
                    obtain ⟨v27, hv27, hf⟩ := zbind hf
                    refine gf_RX9_119 C hv27 dX9_count_132 ?_
                    cases hf
                    exact hq _ _ dX9_count_135
                  · rw [if_neg q25] at hf
                    by_cases q28 : x1 = (zi 9)
                    · rw [if_pos q28] at hf
                      refine z_tableIn C 136 dX9_count_1 (by rw [q28]; decide) (by rw [q28]; decide) (by rw [q28]; rfl) (by decide) ?_
                      refine z_aload_n C dX9_count_136 rfl 0 rfl ?_
                      obtain ⟨v29, hv29, hf⟩ := zbind hf
                      refine gf_RX9_50 C hv29 dX9_count_137 ?_
                      obtain ⟨v30, hv30, hf⟩ := zbind hf
                      refine gf_RX9_122 C hv30 dX9_count_140 ?_
                      cases hf
                      exact hq _ _ dX9_count_143
                    · rw [if_neg q28] at hf
                      by_cases q31 : x1 = (zi 10)
                      · rw [if_pos q31] at hf
                        refine z_tableIn C 144 dX9_count_1 (by rw [q31]; decide) (by rw [q31]; decide) (by rw [q31]; rfl) (by decide) ?_
                        refine z_aload_n C dX9_count_144 rfl 0 rfl ?_
                        obtain ⟨v32, hv32, hf⟩ := zbind hf
                        refine gf_RX9_63 C hv32 dX9_count_145 ?_
                        obtain ⟨v33, hv33, hf⟩ := zbind hf
                        refine gf_RX9_125 C hv33 dX9_count_148 ?_
                        cases hf
                        exact hq _ _ dX9_count_151
                      · rw [if_neg q31] at hf
                        by_cases q34 : x1 = (zi 11)
                        · rw [if_pos q34] at hf
                          refine z_tableIn C 152 dX9_count_1 (by rw [q34]; decide) (by rw [q34]; decide) (by rw [q34]; rfl) (by decide) ?_
                          refine z_aload_n C dX9_count_152 rfl 0 rfl ?_
                          obtain ⟨v35, hv35, hf⟩ := zbind hf
                          refine gf_RX9_50 C hv35 dX9_count_153 ?_
                          obtain ⟨v36, hv36, hf⟩ := zbind hf
                          refine gf_RX9_128 C hv36 dX9_count_156 ?_
                          refine z_if_eq C 166 dX9_count_159 (by decide) (fun q37 => ?_) (fun q37 => ?_)
                          · rw [if_pos q37] at hf
                            refine z_iconst C (zi 0) dX9_count_166 (by decide) ?_
                            cases hf
                            exact hq _ _ dX9_count_167
                          · rw [if_neg q37] at hf
                            refine z_iconst C (zi 1) dX9_count_162 (by decide) ?_
                            refine z_goto C 167 dX9_count_163 (by decide) ?_
                            cases hf
                            exact hq _ _ dX9_count_167
                        · rw [if_neg q34] at hf
                          have w9 : ∀ k : Nat, k < 12 → ¬ x1 = Int32.ofInt ((0 : Int) + k) := by
                            intro k hk
                            match k, hk with
                            | 0, _ => exact q1
                            | 1, _ => exact q4
                            | 2, _ => exact q7
                            | 3, _ => exact q10
                            | 4, _ => exact q13
                            | 5, _ => exact q16
                            | 6, _ => exact q19
                            | 7, _ => exact q22
                            | 8, _ => exact q25
                            | 9, _ => exact q28
                            | 10, _ => exact q31
                            | 11, _ => exact q34
                            | k + 12, hk => exact absurd hk (by omega)
                          refine z_tableOut C 168 dX9_count_1 (zsw 0 12 w9 (by decide)) (by decide) ?_
                          refine z_iconst C (zi (-1)) dX9_count_168 (by decide) ?_
                          cases hf
                          exact hq _ _ dX9_count_169

theorem mX9_count (l : Launch) (D : va_G) (Ca : Nat → ClassId) (B : Nat) (En : State → Prop) (hE : zEk B En) (σ : zS) (N : Nat) (x0 : Nat) (x1 : Int32) (X : zS × Int32) (hf : fX9_count σ x0 x1 = some X) : zMi l D Ca B En yX9_count cX9_count 2 (Option.some Jvm.ClassFile.FieldType.int) 0 0 [.ref x0, .int x1] σ N X.1 X.2 :=
  zMet_i (own := RX9) hE (by decide +kernel) rfl (Nat.le_of_ble_eq_true rfl) (fun p e s m args below meth c C hr hRm => wfX9_count C hRm σ x0 x1 X.1 X.2 hf (fun pc lv hd => zfin_i C hr hd))
theorem dX9_groupsOf_0 : decode cX9_groupsOf 0 = .ok (.iconst 0, 1) := by decide +kernel
theorem dX9_groupsOf_1 : decode cX9_groupsOf 1 = .ok (.istore_n 2, 1) := by decide +kernel
theorem dX9_groupsOf_2 : decode cX9_groupsOf 2 = .ok (.iconst 0, 1) := by decide +kernel
theorem dX9_groupsOf_3 : decode cX9_groupsOf 3 = .ok (.istore_n 3, 1) := by decide +kernel
theorem dX9_groupsOf_4 : decode cX9_groupsOf 4 = .ok (.iload_n 3, 1) := by decide +kernel
theorem dX9_groupsOf_5 : decode cX9_groupsOf 5 = .ok (.bipush 8, 2) := by decide +kernel
theorem dX9_groupsOf_7 : decode cX9_groupsOf 7 = .ok (.if_icmp .ge 21, 3) := by decide +kernel
theorem dX9_groupsOf_10 : decode cX9_groupsOf 10 = .ok (.iload_n 3, 1) := by decide +kernel
theorem dX9_groupsOf_11 : decode cX9_groupsOf 11 = .ok (.iload_n 1, 1) := by decide +kernel
theorem dX9_groupsOf_12 : decode cX9_groupsOf 12 = .ok (.invokestatic 172, 3) := by decide +kernel
theorem dX9_groupsOf_15 : decode cX9_groupsOf 15 = .ok (.iload_n 0, 1) := by decide +kernel
theorem dX9_groupsOf_16 : decode cX9_groupsOf 16 = .ok (.if_icmp .ne 6, 3) := by decide +kernel
theorem dX9_groupsOf_19 : decode cX9_groupsOf 19 = .ok (.iinc 2 1, 3) := by decide +kernel
theorem dX9_groupsOf_22 : decode cX9_groupsOf 22 = .ok (.iinc 3 1, 3) := by decide +kernel
theorem dX9_groupsOf_25 : decode cX9_groupsOf 25 = .ok (.goto (-21), 3) := by decide +kernel
theorem dX9_groupsOf_28 : decode cX9_groupsOf 28 = .ok (.iload_n 2, 1) := by decide +kernel
theorem dX9_groupsOf_29 : decode cX9_groupsOf 29 = .ok (.ireturn, 1) := by decide +kernel
theorem hyX9_groupsOf : yX9_groupsOf.cls ≠ "java/lang/invoke/MethodHandle" ∧ yX9_groupsOf.cls ≠ "java/lang/invoke/VarHandle" ∧ (parseMethodDescriptor yX9_groupsOf.desc).map (fun d => d.parameters.length) = some 2 := ⟨by decide +kernel, by decide +kernel, by decide +kernel⟩
set_option maxRecDepth 100000 in
set_option maxHeartbeats 4000000 in
theorem wjX9_groupsOf_22_L4 (C : zC p s m args meth c cX9_groupsOf RX9 4 D Ca B En) (hRm : zRm R 1 21 cells slots) (σ : zS) (x0 : Int32) (x1 : Int32) (x2 : Int32) (x3 : Int32)  (y : (zS × Int32 × Int32) ⊕ (zS × Int32)) (hf : jX9_groupsOf_22_L4 σ x0 x1 x2 x3  = some y) (hk : (∀ z : (zS × Int32 × Int32), y = .inl z → zW p l e R s m args below meth c cells slots Q D Ca B 4 z.1 N 4 [(0, .int x0), (1, .int x1), (2, .int z.2.1), (3, .int z.2.2)] []) ∧ (∀ z : (zS × Int32), y = .inr z → zW p l e R s m args below meth c cells slots Q D Ca B 4 z.1 N 28 [(2, .int z.2)] [])) : zW p l e R s m args below meth c cells slots Q D Ca B 4 σ N 22 [(0, .int x0), (1, .int x1), (2, .int x2), (3, .int x3)] [] := by
  unfold jX9_groupsOf_22_L4 at hf
  refine z_iinc (lv2 := [(3, .int (x3 + (zi 1))), (0, .int x0), (1, .int x1), (2, .int x2)]) C (x3 + (zi 1)) dX9_groupsOf_22 3 rfl rfl (by decide) rfl ?_
  refine z_goto C 4 dX9_groupsOf_25 (by decide) ?_
  cases hf
  refine z_sub [1, 2, 3, 0] rfl ?_
  exact hk.1 _ rfl

set_option maxRecDepth 100000 in
set_option maxHeartbeats 4000000 in
theorem wsX9_groupsOf_4b (C : zC p s m args meth c cX9_groupsOf RX9 4 D Ca B En) (hRm : zRm R 1 21 cells slots) (x0 : Int32) (x1 : Int32) (σ : zS) (u2 : Int32) (u3 : Int32) (y : (zS × Int32 × Int32) ⊕ (zS × Int32)) (hf : sX9_groupsOf_4b x0 x1 σ u2 u3 = some y) (hk : (∀ z : (zS × Int32 × Int32), y = .inl z → zW p l e R s m args below meth c cells slots Q D Ca B 4 z.1 N 4 [(0, .int x0), (1, .int x1), (2, .int z.2.1), (3, .int z.2.2)] []) ∧ (∀ z : (zS × Int32), y = .inr z → zW p l e R s m args below meth c cells slots Q D Ca B 4 z.1 N 28 [(2, .int z.2)] [])) : zW p l e R s m args below meth c cells slots Q D Ca B 4 σ N 4 [(0, .int x0), (1, .int x1), (2, .int u2), (3, .int u3)] [] := by
  unfold sX9_groupsOf_4b at hf
  refine z_iload_n C dX9_groupsOf_4 rfl 3 rfl ?_
  refine z_bipush C (zi 8) dX9_groupsOf_5 (by decide) ?_
  refine z_icmp_ge C 28 dX9_groupsOf_7 (by decide) (fun q3 => ?_) (fun q3 => ?_)
  · rw [if_pos q3] at hf
    cases hf
    refine z_sub [2] rfl ?_
    exact hk.2 _ rfl
  · rw [if_neg q3] at hf
    refine z_iload_n C dX9_groupsOf_10 rfl 3 rfl ?_
    refine z_iload_n C dX9_groupsOf_11 rfl 1 rfl ?_
    obtain ⟨c1, hc1, hf⟩ := zbind hf
    refine z_callSi (As := [.int u3, .int x1]) (F0 := 1) (L0 := 21) C (mX9_ownerOf l D Ca B En C.2.2.2.2.2.2.2.1 σ N u3 x1 _ hc1) hRm kw_641 kw_1 kw_1194 kw_640 hyX9_ownerOf (Nat.le_of_ble_eq_true rfl) (Nat.le_of_ble_eq_true rfl) rfl rfl (Nat.le_of_ble_eq_true rfl) dX9_groupsOf_12 ?_
    refine z_iload_n C dX9_groupsOf_15 rfl 0 rfl ?_
    refine z_icmp_ne C 22 dX9_groupsOf_16 (by decide) (fun q2 => ?_) (fun q2 => ?_)
    · rw [if_neg q2] at hf
      refine z_sub [0, 1, 2, 3] rfl ?_
      exact wjX9_groupsOf_22_L4 C hRm _ _ _ _ _  _ hf hk
    · rw [if_pos q2] at hf
      refine z_iinc (lv2 := [(2, .int (u2 + (zi 1))), (0, .int x0), (1, .int x1), (3, .int u3)]) C (u2 + (zi 1)) dX9_groupsOf_19 2 rfl rfl (by decide) rfl ?_
      refine z_sub [1, 2, 0, 3] rfl ?_
      exact wjX9_groupsOf_22_L4 C hRm _ _ _ _ _  _ hf hk

theorem wsX9_groupsOf_4 (C : zC p s m args meth c cX9_groupsOf RX9 4 D Ca B En) (hRm : zRm R 1 21 cells slots) (x0 : Int32) (x1 : Int32) (n : Nat) (z : (zS × Int32 × Int32)) (x : (zS × Int32)) (hf : zloop (sX9_groupsOf_4 x0 x1) n z = some x) (hk : (∀ o : (zS × Int32), x = o → zW p l e R s m args below meth c cells slots Q D Ca B 4 o.1 N 28 [(2, .int o.2)] [])) : zW p l e R s m args below meth c cells slots Q D Ca B 4 z.1 N 4 [(0, .int x0), (1, .int x1), (2, .int z.2.1), (3, .int z.2.2)] [] := by
  refine zloop_W (P := fun z : (zS × Int32 × Int32) => zW p l e R s m args below meth c cells slots Q D Ca B 4 z.1 N 4 [(0, .int x0), (1, .int x1), (2, .int z.2.1), (3, .int z.2.2)] []) (K := fun x : (zS × Int32) => (∀ o : (zS × Int32), x = o → zW p l e R s m args below meth c cells slots Q D Ca B 4 o.1 N 28 [(2, .int o.2)] [])) ?_ n z x hf hk
  intro z y hy h1 h2
  refine wsX9_groupsOf_4b C hRm x0 x1 z.1 z.2.1 z.2.2 y hy ⟨fun z2 e => h1 z2 e, fun o e => (h2 _ e) o rfl⟩
set_option maxRecDepth 100000 in
set_option maxHeartbeats 4000000 in
theorem wfX9_groupsOf (C : zC p s m args meth c cX9_groupsOf RX9 4 D Ca B En) (hRm : zRm R 1 21 cells slots) (σ : zS) (x0 : Int32) (x1 : Int32) (τ : zS) (r : Int32) (hf : fX9_groupsOf σ x0 x1 = some (τ, r)) (hq : ∀ (pc : Nat) (lv : List (Nat × Value)), decode cX9_groupsOf pc = .ok (.ireturn, 1) → zW p l e R s m args below meth c cells slots Q D Ca B 4 τ N pc lv [.int r]) : zW p l e R s m args below meth c cells slots Q D Ca B 4 σ N 0 [(0, .int x0), (1, .int x1)] [] := by
  unfold fX9_groupsOf at hf
  refine z_iconst C (zi 0) dX9_groupsOf_0 (by decide) ?_
  refine z_istore_n (lv2 := [(2, .int ((zi 0))), (0, .int x0), (1, .int x1)]) C dX9_groupsOf_1 rfl (by decide) rfl ?_
  refine z_iconst C (zi 0) dX9_groupsOf_2 (by decide) ?_
  refine z_istore_n (lv2 := [(3, .int ((zi 0))), (2, .int ((zi 0))), (0, .int x0), (1, .int x1)]) C dX9_groupsOf_3 rfl (by decide) rfl ?_
  obtain ⟨o4, ho4, hf⟩ := zbind hf
  refine z_sub [2, 3, 1, 0] rfl ?_
  refine wsX9_groupsOf_4 C hRm _ _ zfuel (σ, (zi 0), (zi 0)) o4 ho4 ?_
  intro z9 e9
  subst e9
  refine z_iload_n C dX9_groupsOf_28 rfl 0 rfl ?_
  cases hf
  exact hq _ _ dX9_groupsOf_29

theorem mX9_groupsOf (l : Launch) (D : va_G) (Ca : Nat → ClassId) (B : Nat) (En : State → Prop) (hE : zEk B En) (σ : zS) (N : Nat) (x0 : Int32) (x1 : Int32) (X : zS × Int32) (hf : fX9_groupsOf σ x0 x1 = some X) : zMi l D Ca B En yX9_groupsOf cX9_groupsOf 4 (Option.some Jvm.ClassFile.FieldType.int) 1 21 [.int x0, .int x1] σ N X.1 X.2 :=
  zMet_i (own := RX9) hE (by decide +kernel) rfl (Nat.le_of_ble_eq_true rfl) (fun p e s m args below meth c C hr hRm => wfX9_groupsOf C hRm σ x0 x1 X.1 X.2 hf (fun pc lv hd => zfin_i C hr hd))
theorem dX9_atRisk_0 : decode cX9_atRisk 0 = .ok (.aload_n 0, 1) := by decide +kernel
theorem dX9_atRisk_1 : decode cX9_atRisk 1 = .ok (.getfield 50, 3) := by decide +kernel
theorem dX9_atRisk_4 : decode cX9_atRisk 4 = .ok (.invokevirtual 281, 3) := by decide +kernel
theorem dX9_atRisk_7 : decode cX9_atRisk 7 = .ok (.ireturn, 1) := by decide +kernel
theorem hyX9_atRisk : yX9_atRisk.cls ≠ "java/lang/invoke/MethodHandle" ∧ yX9_atRisk.cls ≠ "java/lang/invoke/VarHandle" ∧ (parseMethodDescriptor yX9_atRisk.desc).map (fun d => d.parameters.length) = some 0 := ⟨by decide +kernel, by decide +kernel, by decide +kernel⟩
set_option maxRecDepth 100000 in
set_option maxHeartbeats 4000000 in
theorem wfX9_atRisk (C : zC p s m args meth c cX9_atRisk RX9 1 D Ca B En) (hRm : zRm R 2 44 cells slots) (σ : zS) (x0 : Nat) (τ : zS) (r : Int32) (hf : fX9_atRisk σ x0 = some (τ, r)) (hq : ∀ (pc : Nat) (lv : List (Nat × Value)), decode cX9_atRisk pc = .ok (.ireturn, 1) → zW p l e R s m args below meth c cells slots Q D Ca B 1 τ N pc lv [.int r]) : zW p l e R s m args below meth c cells slots Q D Ca B 1 σ N 0 [(0, .ref x0)] [] := by
  unfold fX9_atRisk at hf
  refine z_aload_n C dX9_atRisk_0 rfl 0 rfl ?_
  obtain ⟨v1, hv1, hf⟩ := zbind hf
  refine gf_RX9_50 C hv1 dX9_atRisk_1 ?_
  obtain ⟨c2, hc2, hf⟩ := zbind hf
  obtain ⟨kc2, hc2⟩ := zck_ok hc2
  refine z_callVi (As := []) (F0 := 2) (L0 := 44) C (mX1_recordsAtRisk l D Ca B En C.2.2.2.2.2.2.2.1 σ N v1  _ hc2) hRm kc2 rfl kw_573 kw_8 kw_570 kw_571 kw_572 hyX1_recordsAtRisk (Nat.le_of_ble_eq_true rfl) (Nat.le_of_ble_eq_true rfl) rfl rfl (Nat.le_of_ble_eq_true rfl) dX9_atRisk_4 ?_
  cases hf
  exact hq _ _ dX9_atRisk_7

theorem mX9_atRisk (l : Launch) (D : va_G) (Ca : Nat → ClassId) (B : Nat) (En : State → Prop) (hE : zEk B En) (σ : zS) (N : Nat) (x0 : Nat) (X : zS × Int32) (hf : fX9_atRisk σ x0 = some X) : zMi l D Ca B En yX9_atRisk cX9_atRisk 1 (Option.some Jvm.ClassFile.FieldType.int) 2 44 [.ref x0] σ N X.1 X.2 :=
  zMet_i (own := RX9) hE (by decide +kernel) rfl (Nat.le_of_ble_eq_true rfl) (fun p e s m args below meth c C hr hRm => wfX9_atRisk C hRm σ x0 X.1 X.2 hf (fun pc lv hd => zfin_i C hr hd))
theorem dX9_fail_0 : decode cX9_fail 0 = .ok (.aload_n 0, 1) := by decide +kernel
theorem dX9_fail_1 : decode cX9_fail 1 = .ok (.getfield 63, 3) := by decide +kernel
theorem dX9_fail_4 : decode cX9_fail 4 = .ok (.aload_n 0, 1) := by decide +kernel
theorem dX9_fail_5 : decode cX9_fail 5 = .ok (.getfield 50, 3) := by decide +kernel
theorem dX9_fail_8 : decode cX9_fail 8 = .ok (.invokevirtual 299, 3) := by decide +kernel
theorem dX9_fail_11 : decode cX9_fail 11 = .ok (.aload_n 0, 1) := by decide +kernel
theorem dX9_fail_12 : decode cX9_fail 12 = .ok (.getfield 50, 3) := by decide +kernel
theorem dX9_fail_15 : decode cX9_fail 15 = .ok (.invokevirtual 281, 3) := by decide +kernel
theorem dX9_fail_18 : decode cX9_fail 18 = .ok (.istore_n 1, 1) := by decide +kernel
theorem dX9_fail_19 : decode cX9_fail 19 = .ok (.aload_n 0, 1) := by decide +kernel
theorem dX9_fail_20 : decode cX9_fail 20 = .ok (.getfield 50, 3) := by decide +kernel
theorem dX9_fail_23 : decode cX9_fail 23 = .ok (.invokevirtual 313, 3) := by decide +kernel
theorem dX9_fail_26 : decode cX9_fail 26 = .ok (.iload_n 1, 1) := by decide +kernel
theorem dX9_fail_27 : decode cX9_fail 27 = .ok (.ireturn, 1) := by decide +kernel
theorem hyX9_fail : yX9_fail.cls ≠ "java/lang/invoke/MethodHandle" ∧ yX9_fail.cls ≠ "java/lang/invoke/VarHandle" ∧ (parseMethodDescriptor yX9_fail.desc).map (fun d => d.parameters.length) = some 0 := ⟨by decide +kernel, by decide +kernel, by decide +kernel⟩
set_option maxRecDepth 100000 in
set_option maxHeartbeats 4000000 in
theorem wfX9_fail (C : zC p s m args meth c cX9_fail RX9 2 D Ca B En) (hRm : zRm R 6 170 cells slots) (σ : zS) (x0 : Nat) (τ : zS) (r : Int32) (hf : fX9_fail σ x0 = some (τ, r)) (hq : ∀ (pc : Nat) (lv : List (Nat × Value)), decode cX9_fail pc = .ok (.ireturn, 1) → zW p l e R s m args below meth c cells slots Q D Ca B 2 τ N pc lv [.int r]) : zW p l e R s m args below meth c cells slots Q D Ca B 2 σ N 0 [(0, .ref x0)] [] := by
  unfold fX9_fail at hf
  refine z_aload_n C dX9_fail_0 rfl 0 rfl ?_
  obtain ⟨v1, hv1, hf⟩ := zbind hf
  refine gf_RX9_63 C hv1 dX9_fail_1 ?_
  refine z_aload_n C dX9_fail_4 rfl 0 rfl ?_
  obtain ⟨v2, hv2, hf⟩ := zbind hf
  refine gf_RX9_50 C hv2 dX9_fail_5 ?_
  obtain ⟨c3, hc3, hf⟩ := zbind hf
  obtain ⟨kc3, hc3⟩ := zck_ok hc3
  refine z_callVv (As := [.ref v2]) (F0 := 6) (L0 := 170) C (mX6_remember l D Ca B En C.2.2.2.2.2.2.2.1 σ N v1 v2 _ hc3) hRm kc3 rfl kw_588 kw_13 kw_585 kw_586 kw_587 hyX6_remember (Nat.le_of_ble_eq_true rfl) (Nat.le_of_ble_eq_true rfl) rfl rfl (Nat.le_of_ble_eq_true rfl) dX9_fail_8 ?_
  refine z_aload_n C dX9_fail_11 rfl 0 rfl ?_
  obtain ⟨v4, hv4, hf⟩ := zbind hf
  refine gf_RX9_50 C hv4 dX9_fail_12 ?_
  obtain ⟨c5, hc5, hf⟩ := zbind hf
  obtain ⟨kc5, hc5⟩ := zck_ok hc5
  refine z_callVi (As := []) (F0 := 6) (L0 := 170) C (mX1_recordsAtRisk l D Ca B En C.2.2.2.2.2.2.2.1 c3 N v4  _ hc5) hRm kc5 rfl kw_573 kw_8 kw_570 kw_571 kw_572 hyX1_recordsAtRisk (Nat.le_of_ble_eq_true rfl) (Nat.le_of_ble_eq_true rfl) rfl rfl (Nat.le_of_ble_eq_true rfl) dX9_fail_15 ?_
  refine z_istore_n (lv2 := [(1, .int c5.2), (0, .ref x0)]) C dX9_fail_18 rfl (by decide) rfl ?_
  refine z_aload_n C dX9_fail_19 rfl 1 rfl ?_
  obtain ⟨v6, hv6, hf⟩ := zbind hf
  refine gf_RX9_50 C hv6 dX9_fail_20 ?_
  obtain ⟨c7, hc7, hf⟩ := zbind hf
  obtain ⟨kc7, hc7⟩ := zck_ok hc7
  refine z_callVv (As := []) (F0 := 6) (L0 := 170) C (mX1_recover l D Ca B En C.2.2.2.2.2.2.2.1 c5.1 N v6  _ hc7) hRm kc7 rfl kw_308 kw_8 kw_719 kw_306 kw_307 hyX1_recover (Nat.le_of_ble_eq_true rfl) (Nat.le_of_ble_eq_true rfl) rfl rfl (Nat.le_of_ble_eq_true rfl) dX9_fail_23 ?_
  refine z_iload_n C dX9_fail_26 rfl 0 rfl ?_
  cases hf
  exact hq _ _ dX9_fail_27

theorem mX9_fail (l : Launch) (D : va_G) (Ca : Nat → ClassId) (B : Nat) (En : State → Prop) (hE : zEk B En) (σ : zS) (N : Nat) (x0 : Nat) (X : zS × Int32) (hf : fX9_fail σ x0 = some X) : zMi l D Ca B En yX9_fail cX9_fail 2 (Option.some Jvm.ClassFile.FieldType.int) 6 170 [.ref x0] σ N X.1 X.2 :=
  zMet_i (own := RX9) hE (by decide +kernel) rfl (Nat.le_of_ble_eq_true rfl) (fun p e s m args below meth c C hr hRm => wfX9_fail C hRm σ x0 X.1 X.2 hf (fun pc lv hd => zfin_i C hr hd))
theorem dX9_groupsMoved_0 : decode cX9_groupsMoved 0 = .ok (.iconst 0, 1) := by decide +kernel
theorem dX9_groupsMoved_1 : decode cX9_groupsMoved 1 = .ok (.istore_n 2, 1) := by decide +kernel
theorem dX9_groupsMoved_2 : decode cX9_groupsMoved 2 = .ok (.iconst 0, 1) := by decide +kernel
theorem dX9_groupsMoved_3 : decode cX9_groupsMoved 3 = .ok (.istore_n 3, 1) := by decide +kernel
theorem dX9_groupsMoved_4 : decode cX9_groupsMoved 4 = .ok (.iload_n 3, 1) := by decide +kernel
theorem dX9_groupsMoved_5 : decode cX9_groupsMoved 5 = .ok (.bipush 8, 2) := by decide +kernel
theorem dX9_groupsMoved_7 : decode cX9_groupsMoved 7 = .ok (.if_icmp .ge 25, 3) := by decide +kernel
theorem dX9_groupsMoved_10 : decode cX9_groupsMoved 10 = .ok (.iload_n 3, 1) := by decide +kernel
theorem dX9_groupsMoved_11 : decode cX9_groupsMoved 11 = .ok (.iload_n 0, 1) := by decide +kernel
theorem dX9_groupsMoved_12 : decode cX9_groupsMoved 12 = .ok (.invokestatic 172, 3) := by decide +kernel
theorem dX9_groupsMoved_15 : decode cX9_groupsMoved 15 = .ok (.iload_n 3, 1) := by decide +kernel
theorem dX9_groupsMoved_16 : decode cX9_groupsMoved 16 = .ok (.iload_n 1, 1) := by decide +kernel
theorem dX9_groupsMoved_17 : decode cX9_groupsMoved 17 = .ok (.invokestatic 172, 3) := by decide +kernel
theorem dX9_groupsMoved_20 : decode cX9_groupsMoved 20 = .ok (.if_icmp .eq 6, 3) := by decide +kernel
theorem dX9_groupsMoved_23 : decode cX9_groupsMoved 23 = .ok (.iinc 2 1, 3) := by decide +kernel
theorem dX9_groupsMoved_26 : decode cX9_groupsMoved 26 = .ok (.iinc 3 1, 3) := by decide +kernel
theorem dX9_groupsMoved_29 : decode cX9_groupsMoved 29 = .ok (.goto (-25), 3) := by decide +kernel
theorem dX9_groupsMoved_32 : decode cX9_groupsMoved 32 = .ok (.iload_n 2, 1) := by decide +kernel
theorem dX9_groupsMoved_33 : decode cX9_groupsMoved 33 = .ok (.ireturn, 1) := by decide +kernel
theorem hyX9_groupsMoved : yX9_groupsMoved.cls ≠ "java/lang/invoke/MethodHandle" ∧ yX9_groupsMoved.cls ≠ "java/lang/invoke/VarHandle" ∧ (parseMethodDescriptor yX9_groupsMoved.desc).map (fun d => d.parameters.length) = some 2 := ⟨by decide +kernel, by decide +kernel, by decide +kernel⟩
set_option maxRecDepth 100000 in
set_option maxHeartbeats 4000000 in
theorem wjX9_groupsMoved_26_L4 (C : zC p s m args meth c cX9_groupsMoved RX9 4 D Ca B En) (hRm : zRm R 1 21 cells slots) (σ : zS) (x0 : Int32) (x1 : Int32) (x2 : Int32) (x3 : Int32)  (y : (zS × Int32 × Int32) ⊕ (zS × Int32)) (hf : jX9_groupsMoved_26_L4 σ x0 x1 x2 x3  = some y) (hk : (∀ z : (zS × Int32 × Int32), y = .inl z → zW p l e R s m args below meth c cells slots Q D Ca B 4 z.1 N 4 [(0, .int x0), (1, .int x1), (2, .int z.2.1), (3, .int z.2.2)] []) ∧ (∀ z : (zS × Int32), y = .inr z → zW p l e R s m args below meth c cells slots Q D Ca B 4 z.1 N 32 [(2, .int z.2)] [])) : zW p l e R s m args below meth c cells slots Q D Ca B 4 σ N 26 [(0, .int x0), (1, .int x1), (2, .int x2), (3, .int x3)] [] := by
  unfold jX9_groupsMoved_26_L4 at hf
  refine z_iinc (lv2 := [(3, .int (x3 + (zi 1))), (0, .int x0), (1, .int x1), (2, .int x2)]) C (x3 + (zi 1)) dX9_groupsMoved_26 3 rfl rfl (by decide) rfl ?_
  refine z_goto C 4 dX9_groupsMoved_29 (by decide) ?_
  cases hf
  refine z_sub [1, 2, 3, 0] rfl ?_
  exact hk.1 _ rfl

set_option maxRecDepth 100000 in
set_option maxHeartbeats 4000000 in
theorem wsX9_groupsMoved_4b (C : zC p s m args meth c cX9_groupsMoved RX9 4 D Ca B En) (hRm : zRm R 1 21 cells slots) (x0 : Int32) (x1 : Int32) (σ : zS) (u2 : Int32) (u3 : Int32) (y : (zS × Int32 × Int32) ⊕ (zS × Int32)) (hf : sX9_groupsMoved_4b x0 x1 σ u2 u3 = some y) (hk : (∀ z : (zS × Int32 × Int32), y = .inl z → zW p l e R s m args below meth c cells slots Q D Ca B 4 z.1 N 4 [(0, .int x0), (1, .int x1), (2, .int z.2.1), (3, .int z.2.2)] []) ∧ (∀ z : (zS × Int32), y = .inr z → zW p l e R s m args below meth c cells slots Q D Ca B 4 z.1 N 32 [(2, .int z.2)] [])) : zW p l e R s m args below meth c cells slots Q D Ca B 4 σ N 4 [(0, .int x0), (1, .int x1), (2, .int u2), (3, .int u3)] [] := by
  unfold sX9_groupsMoved_4b at hf
  refine z_iload_n C dX9_groupsMoved_4 rfl 3 rfl ?_
  refine z_bipush C (zi 8) dX9_groupsMoved_5 (by decide) ?_
  refine z_icmp_ge C 32 dX9_groupsMoved_7 (by decide) (fun q4 => ?_) (fun q4 => ?_)
  · rw [if_pos q4] at hf
    cases hf
    refine z_sub [2] rfl ?_
    exact hk.2 _ rfl
  · rw [if_neg q4] at hf
    refine z_iload_n C dX9_groupsMoved_10 rfl 3 rfl ?_
    refine z_iload_n C dX9_groupsMoved_11 rfl 0 rfl ?_
    obtain ⟨c1, hc1, hf⟩ := zbind hf
    refine z_callSi (As := [.int u3, .int x0]) (F0 := 1) (L0 := 21) C (mX9_ownerOf l D Ca B En C.2.2.2.2.2.2.2.1 σ N u3 x0 _ hc1) hRm kw_641 kw_1 kw_1194 kw_640 hyX9_ownerOf (Nat.le_of_ble_eq_true rfl) (Nat.le_of_ble_eq_true rfl) rfl rfl (Nat.le_of_ble_eq_true rfl) dX9_groupsMoved_12 ?_
    refine z_iload_n C dX9_groupsMoved_15 rfl 3 rfl ?_
    refine z_iload_n C dX9_groupsMoved_16 rfl 1 rfl ?_
    obtain ⟨c2, hc2, hf⟩ := zbind hf
    refine z_callSi (As := [.int u3, .int x1]) (F0 := 1) (L0 := 21) C (mX9_ownerOf l D Ca B En C.2.2.2.2.2.2.2.1 c1.1 N u3 x1 _ hc2) hRm kw_641 kw_1 kw_1194 kw_640 hyX9_ownerOf (Nat.le_of_ble_eq_true rfl) (Nat.le_of_ble_eq_true rfl) rfl rfl (Nat.le_of_ble_eq_true rfl) dX9_groupsMoved_17 ?_
    refine z_icmp_eq C 26 dX9_groupsMoved_20 (by decide) (fun q3 => ?_) (fun q3 => ?_)
    · rw [if_pos q3] at hf
      refine z_sub [0, 1, 2, 3] rfl ?_
      exact wjX9_groupsMoved_26_L4 C hRm _ _ _ _ _  _ hf hk
    · rw [if_neg q3] at hf
      refine z_iinc (lv2 := [(2, .int (u2 + (zi 1))), (0, .int x0), (1, .int x1), (3, .int u3)]) C (u2 + (zi 1)) dX9_groupsMoved_23 2 rfl rfl (by decide) rfl ?_
      refine z_sub [1, 2, 0, 3] rfl ?_
      exact wjX9_groupsMoved_26_L4 C hRm _ _ _ _ _  _ hf hk

theorem wsX9_groupsMoved_4 (C : zC p s m args meth c cX9_groupsMoved RX9 4 D Ca B En) (hRm : zRm R 1 21 cells slots) (x0 : Int32) (x1 : Int32) (n : Nat) (z : (zS × Int32 × Int32)) (x : (zS × Int32)) (hf : zloop (sX9_groupsMoved_4 x0 x1) n z = some x) (hk : (∀ o : (zS × Int32), x = o → zW p l e R s m args below meth c cells slots Q D Ca B 4 o.1 N 32 [(2, .int o.2)] [])) : zW p l e R s m args below meth c cells slots Q D Ca B 4 z.1 N 4 [(0, .int x0), (1, .int x1), (2, .int z.2.1), (3, .int z.2.2)] [] := by
  refine zloop_W (P := fun z : (zS × Int32 × Int32) => zW p l e R s m args below meth c cells slots Q D Ca B 4 z.1 N 4 [(0, .int x0), (1, .int x1), (2, .int z.2.1), (3, .int z.2.2)] []) (K := fun x : (zS × Int32) => (∀ o : (zS × Int32), x = o → zW p l e R s m args below meth c cells slots Q D Ca B 4 o.1 N 32 [(2, .int o.2)] [])) ?_ n z x hf hk
  intro z y hy h1 h2
  refine wsX9_groupsMoved_4b C hRm x0 x1 z.1 z.2.1 z.2.2 y hy ⟨fun z2 e => h1 z2 e, fun o e => (h2 _ e) o rfl⟩
set_option maxRecDepth 100000 in
set_option maxHeartbeats 4000000 in
theorem wfX9_groupsMoved (C : zC p s m args meth c cX9_groupsMoved RX9 4 D Ca B En) (hRm : zRm R 1 21 cells slots) (σ : zS) (x0 : Int32) (x1 : Int32) (τ : zS) (r : Int32) (hf : fX9_groupsMoved σ x0 x1 = some (τ, r)) (hq : ∀ (pc : Nat) (lv : List (Nat × Value)), decode cX9_groupsMoved pc = .ok (.ireturn, 1) → zW p l e R s m args below meth c cells slots Q D Ca B 4 τ N pc lv [.int r]) : zW p l e R s m args below meth c cells slots Q D Ca B 4 σ N 0 [(0, .int x0), (1, .int x1)] [] := by
  unfold fX9_groupsMoved at hf
  refine z_iconst C (zi 0) dX9_groupsMoved_0 (by decide) ?_
  refine z_istore_n (lv2 := [(2, .int ((zi 0))), (0, .int x0), (1, .int x1)]) C dX9_groupsMoved_1 rfl (by decide) rfl ?_
  refine z_iconst C (zi 0) dX9_groupsMoved_2 (by decide) ?_
  refine z_istore_n (lv2 := [(3, .int ((zi 0))), (2, .int ((zi 0))), (0, .int x0), (1, .int x1)]) C dX9_groupsMoved_3 rfl (by decide) rfl ?_
  obtain ⟨o5, ho5, hf⟩ := zbind hf
  refine z_sub [2, 3, 1, 0] rfl ?_
  refine wsX9_groupsMoved_4 C hRm _ _ zfuel (σ, (zi 0), (zi 0)) o5 ho5 ?_
  intro z9 e9
  subst e9
  refine z_iload_n C dX9_groupsMoved_32 rfl 0 rfl ?_
  cases hf
  exact hq _ _ dX9_groupsMoved_33

theorem mX9_groupsMoved (l : Launch) (D : va_G) (Ca : Nat → ClassId) (B : Nat) (En : State → Prop) (hE : zEk B En) (σ : zS) (N : Nat) (x0 : Int32) (x1 : Int32) (X : zS × Int32) (hf : fX9_groupsMoved σ x0 x1 = some X) : zMi l D Ca B En yX9_groupsMoved cX9_groupsMoved 4 (Option.some Jvm.ClassFile.FieldType.int) 1 21 [.int x0, .int x1] σ N X.1 X.2 :=
  zMet_i (own := RX9) hE (by decide +kernel) rfl (Nat.le_of_ble_eq_true rfl) (fun p e s m args below meth c C hr hRm => wfX9_groupsMoved C hRm σ x0 x1 X.1 X.2 hf (fun pc lv hd => zfin_i C hr hd))
theorem dX9_wouldTake_0 : decode cX9_wouldTake 0 = .ok (.aload_n 0, 1) := by decide +kernel
theorem dX9_wouldTake_1 : decode cX9_wouldTake 1 = .ok (.getfield 50, 3) := by decide +kernel
theorem dX9_wouldTake_4 : decode cX9_wouldTake 4 = .ok (.getfield 227, 3) := by decide +kernel
theorem dX9_wouldTake_7 : decode cX9_wouldTake 7 = .ok (.invokevirtual 231, 3) := by decide +kernel
theorem dX9_wouldTake_10 : decode cX9_wouldTake 10 = .ok (.ifCond .eq 5, 3) := by decide +kernel
theorem dX9_wouldTake_13 : decode cX9_wouldTake 13 = .ok (.iconst (-1), 1) := by decide +kernel
theorem dX9_wouldTake_14 : decode cX9_wouldTake 14 = .ok (.ireturn, 1) := by decide +kernel
theorem dX9_wouldTake_15 : decode cX9_wouldTake 15 = .ok (.aload_n 0, 1) := by decide +kernel
theorem dX9_wouldTake_16 : decode cX9_wouldTake 16 = .ok (.getfield 54, 3) := by decide +kernel
theorem dX9_wouldTake_19 : decode cX9_wouldTake 19 = .ok (.aload_n 0, 1) := by decide +kernel
theorem dX9_wouldTake_20 : decode cX9_wouldTake 20 = .ok (.getfield 50, 3) := by decide +kernel
theorem dX9_wouldTake_23 : decode cX9_wouldTake 23 = .ok (.invokevirtual 325, 3) := by decide +kernel
theorem dX9_wouldTake_26 : decode cX9_wouldTake 26 = .ok (.aload_n 0, 1) := by decide +kernel
theorem dX9_wouldTake_27 : decode cX9_wouldTake 27 = .ok (.getfield 54, 3) := by decide +kernel
theorem dX9_wouldTake_30 : decode cX9_wouldTake 30 = .ok (.iload_n 1, 1) := by decide +kernel
theorem dX9_wouldTake_31 : decode cX9_wouldTake 31 = .ok (.invokevirtual 309, 3) := by decide +kernel
theorem dX9_wouldTake_34 : decode cX9_wouldTake 34 = .ok (.aload_n 0, 1) := by decide +kernel
theorem dX9_wouldTake_35 : decode cX9_wouldTake 35 = .ok (.getfield 54, 3) := by decide +kernel
theorem dX9_wouldTake_38 : decode cX9_wouldTake 38 = .ok (.sipush 500, 3) := by decide +kernel
theorem dX9_wouldTake_41 : decode cX9_wouldTake 41 = .ok (.invokevirtual 328, 3) := by decide +kernel
theorem dX9_wouldTake_44 : decode cX9_wouldTake 44 = .ok (.ireturn, 1) := by decide +kernel
theorem hyX9_wouldTake : yX9_wouldTake.cls ≠ "java/lang/invoke/MethodHandle" ∧ yX9_wouldTake.cls ≠ "java/lang/invoke/VarHandle" ∧ (parseMethodDescriptor yX9_wouldTake.desc).map (fun d => d.parameters.length) = some 1 := ⟨by decide +kernel, by decide +kernel, by decide +kernel⟩
set_option maxRecDepth 100000 in
set_option maxHeartbeats 4000000 in
theorem wfX9_wouldTake (C : zC p s m args meth c cX9_wouldTake RX9 2 D Ca B En) (hRm : zRm R 7 160 cells slots) (σ : zS) (x0 : Nat) (x1 : Int32) (τ : zS) (r : Int32) (hf : fX9_wouldTake σ x0 x1 = some (τ, r)) (hq : ∀ (pc : Nat) (lv : List (Nat × Value)), decode cX9_wouldTake pc = .ok (.ireturn, 1) → zW p l e R s m args below meth c cells slots Q D Ca B 2 τ N pc lv [.int r]) : zW p l e R s m args below meth c cells slots Q D Ca B 2 σ N 0 [(0, .ref x0), (1, .int x1)] [] := by
  unfold fX9_wouldTake at hf
  refine z_aload_n C dX9_wouldTake_0 rfl 0 rfl ?_
  obtain ⟨v1, hv1, hf⟩ := zbind hf
  refine gf_RX9_50 C hv1 dX9_wouldTake_1 ?_
  obtain ⟨v2, hv2, hf⟩ := zbind hf
  refine gf_RX9_227 C hv2 dX9_wouldTake_4 ?_
  obtain ⟨c3, hc3, hf⟩ := zbind hf
  obtain ⟨kc3, hc3⟩ := zck_ok hc3
  refine z_callVi (As := []) (F0 := 7) (L0 := 160) C (mX0_exists l D Ca B En C.2.2.2.2.2.2.2.1 σ N v2  _ hc3) hRm kc3 rfl kw_316 kw_10 kw_550 kw_314 kw_315 hyX0_exists (Nat.le_of_ble_eq_true rfl) (Nat.le_of_ble_eq_true rfl) rfl rfl (Nat.le_of_ble_eq_true rfl) dX9_wouldTake_7 ?_
  refine z_if_eq C 15 dX9_wouldTake_10 (by decide) (fun q11 => ?_) (fun q11 => ?_)
  · rw [if_pos q11] at hf
    refine z_aload_n C dX9_wouldTake_15 rfl 0 rfl ?_
    obtain ⟨v4, hv4, hf⟩ := zbind hf
    refine gf_RX9_54 C hv4 dX9_wouldTake_16 ?_
    refine z_aload_n C dX9_wouldTake_19 rfl 0 rfl ?_
    obtain ⟨v5, hv5, hf⟩ := zbind hf
    refine gf_RX9_50 C hv5 dX9_wouldTake_20 ?_
    obtain ⟨c6, hc6, hf⟩ := zbind hf
    obtain ⟨kc6, hc6⟩ := zck_ok hc6
    refine z_callVv (As := [.ref v5]) (F0 := 7) (L0 := 160) C (mX1_copyFrom l D Ca B En C.2.2.2.2.2.2.2.1 c3.1 N v4 v5 _ hc6) hRm kc6 rfl kw_593 kw_8 kw_747 kw_591 kw_592 hyX1_copyFrom (Nat.le_of_ble_eq_true rfl) (Nat.le_of_ble_eq_true rfl) rfl rfl (Nat.le_of_ble_eq_true rfl) dX9_wouldTake_23 ?_
    refine z_aload_n C dX9_wouldTake_26 rfl 0 rfl ?_
    obtain ⟨v7, hv7, hf⟩ := zbind hf
    refine gf_RX9_54 C hv7 dX9_wouldTake_27 ?_
    refine z_iload_n C dX9_wouldTake_30 rfl 1 rfl ?_
    obtain ⟨c8, hc8, hf⟩ := zbind hf
    obtain ⟨kc8, hc8⟩ := zck_ok hc8
    refine z_callVv (As := [.int x1]) (F0 := 7) (L0 := 160) C (mX1_startCheckpoint l D Ca B En C.2.2.2.2.2.2.2.1 c6 N v7 x1 _ hc8) hRm kc8 rfl kw_612 kw_8 kw_757 kw_610 kw_611 hyX1_startCheckpoint (Nat.le_of_ble_eq_true rfl) (Nat.le_of_ble_eq_true rfl) rfl rfl (Nat.le_of_ble_eq_true rfl) dX9_wouldTake_31 ?_
    refine z_aload_n C dX9_wouldTake_34 rfl 0 rfl ?_
    obtain ⟨v9, hv9, hf⟩ := zbind hf
    refine gf_RX9_54 C hv9 dX9_wouldTake_35 ?_
    refine z_sipush C (zi 500) dX9_wouldTake_38 (by decide) ?_
    obtain ⟨c10, hc10, hf⟩ := zbind hf
    obtain ⟨kc10, hc10⟩ := zck_ok hc10
    refine z_callVi (As := [.int ((zi 500))]) (F0 := 7) (L0 := 160) C (mX1_ticksToCompletion l D Ca B En C.2.2.2.2.2.2.2.1 c8 N v9 ((zi 500)) _ hc10) hRm kc10 rfl kw_751 kw_8 kw_748 kw_749 kw_750 hyX1_ticksToCompletion (Nat.le_of_ble_eq_true rfl) (Nat.le_of_ble_eq_true rfl) rfl rfl (Nat.le_of_ble_eq_true rfl) dX9_wouldTake_41 ?_
    cases hf
    exact hq _ _ dX9_wouldTake_44
  · rw [if_neg q11] at hf
    refine z_iconst C (zi (-1)) dX9_wouldTake_13 (by decide) ?_
    cases hf
    exact hq _ _ dX9_wouldTake_14

theorem mX9_wouldTake (l : Launch) (D : va_G) (Ca : Nat → ClassId) (B : Nat) (En : State → Prop) (hE : zEk B En) (σ : zS) (N : Nat) (x0 : Nat) (x1 : Int32) (X : zS × Int32) (hf : fX9_wouldTake σ x0 x1 = some X) : zMi l D Ca B En yX9_wouldTake cX9_wouldTake 2 (Option.some Jvm.ClassFile.FieldType.int) 7 160 [.ref x0, .int x1] σ N X.1 X.2 :=
  zMet_i (own := RX9) hE (by decide +kernel) rfl (Nat.le_of_ble_eq_true rfl) (fun p e s m args below meth c C hr hRm => wfX9_wouldTake C hRm σ x0 x1 X.1 X.2 hf (fun pc lv hd => zfin_i C hr hd))
end ZM
