/-! The methods of the face, where they throw. -/
theorem kw_865 : (Jvm.Cond.classLink "BarrierFlowLaw" (13 : Nat) "java/lang/IndexOutOfBoundsException") ∈ zTb := zTb_of 865 (by decide +kernel) (by decide +kernel)
theorem kw_951 : (Jvm.Cond.classLink "BarrierFlowLaw" (23 : Nat) "java/lang/IllegalArgumentException") ∈ zTb := zTb_of 951 (by decide +kernel) (by decide +kernel)
theorem kw_1018 : (Jvm.Cond.classLink "BarrierFlowLaw" (37 : Nat) "java/util/NoSuchElementException") ∈ zTb := zTb_of 1018 (by decide +kernel) (by decide +kernel)
theorem kw_1132 : (Jvm.Cond.classLink "BarrierFlowLaw" (71 : Nat) "java/lang/IllegalStateException") ∈ zTb := zTb_of 1132 (by decide +kernel) (by decide +kernel)
theorem zEcm : ∀ k, k = 1 ∨ k = 2 ∨ k = 3 ∨ k = 4 → Cond.castable (zEx k) (zEx k) ∈ zEbL := by
  rintro k (rfl | rfl | rfl | rfl) <;> simp [zEbL]
section ZU3
variable {p : Program} {l : Launch} {e : Env} {R : Room} {s : State} {m : MethodId} {args : Array Value} {below : List Frame} {meth : Method} {c : Code} {cells slots : Nat} {D : va_G} {Ca : Nat → ClassId} {B : Nat} {En : State → Prop} {N k : Nat}
set_option maxRecDepth 100000 in
set_option maxHeartbeats 4000000 in
theorem mtX9_source (l : Launch) (D : va_G) (Ca : Nat → ClassId) (B : Nat) (En : State → Prop) (hE : zEk B En) (hT : ∀ U, En U → zThr B U) (hl0 : l.stackTraces = false) (σ : zS) (N : Nat) (x0 : Nat) (x1 : Int32) (x2 : Int32) (h13 : (σ.1 x0).1 = 13) (k : Nat) (hf : tX9_source σ x0 x1 x2 = some k) : zMx l D Ca B En yX9_source cX9_source 3 (Option.some Jvm.ClassFile.FieldType.int) 7 102 [.ref x0, .int x1, .int x2] σ N k := by
  refine zMet_x (own := RX9) hE (by decide +kernel) rfl (Nat.le_of_ble_eq_true rfl) (fun p e s m args below meth c C hx hRm => ?_)
  unfold tX9_source at hf
  refine z_aload_n C dX9_source_0 rfl 0 rfl ?_
  refine z_iload_n C dX9_source_1 rfl 1 rfl ?_
  refine ztc hf (fun t9 => ?_) (fun t9 hg => ?_)
  · exact z_xV (As := [.int x1]) (F0 := 7) (L0 := 102) C (mtX9_needSource l D Ca B En C.2.2.2.2.2.2.2.1 hT hl0 σ N x0 x1 _ t9) hRm h13 rfl kw_873 kw_1 kw_870 kw_872 kp_31 hyX9_needSource (Nat.le_of_ble_eq_true rfl) (Nat.le_of_ble_eq_true rfl) rfl rfl (Nat.le_of_ble_eq_true rfl) dX9_source_2 hx (Nat.le_of_ble_eq_true rfl) (Nat.le_of_ble_eq_true rfl) rfl rfl
  replace hf := hg
  clear hg
  replace hf := zbind hf
  obtain ⟨c1, hc1, hf⟩ := hf
  obtain ⟨kc1, hc1⟩ := zck_ok hc1
  refine z_callVv (As := [.int x1]) (F0 := 7) (L0 := 102) C (mX9_needSource l D Ca B En C.2.2.2.2.2.2.2.1 σ N x0 x1 _ hc1) hRm kc1 rfl kw_873 kw_1 kw_870 kw_872 kp_31 hyX9_needSource (Nat.le_of_ble_eq_true rfl) (Nat.le_of_ble_eq_true rfl) rfl rfl (Nat.le_of_ble_eq_true rfl) dX9_source_2 ?_
  have sc1 : c1 = σ := saX9_needSource hc1
  subst sc1
  refine z_iload_n C dX9_source_5 rfl 2 rfl ?_
  by_cases q2 : x2 = (zi 0)
  · rw [if_pos q2] at hf
    refine z_tableIn C 36 dX9_source_6 (by rw [q2]; decide) (by rw [q2]; decide) (by rw [q2]; rfl) (by decide) ?_
    exact zno9 (by simp only [zno, ite_self]) hf
  · rw [if_neg q2] at hf
    by_cases q6 : x2 = (zi 1)
    · rw [if_pos q6] at hf
      refine z_tableIn C 46 dX9_source_6 (by rw [q6]; decide) (by rw [q6]; decide) (by rw [q6]; rfl) (by decide) ?_
      exact zno9 (by simp only [zno, ite_self]) hf
    · rw [if_neg q6] at hf
      by_cases q10 : x2 = (zi 2)
      · rw [if_pos q10] at hf
        refine z_tableIn C 56 dX9_source_6 (by rw [q10]; decide) (by rw [q10]; decide) (by rw [q10]; rfl) (by decide) ?_
        exact zno9 (by simp only [zno, ite_self]) hf
      · rw [if_neg q10] at hf
        by_cases q14 : x2 = (zi 3)
        · rw [if_pos q14] at hf
          refine z_tableIn C 66 dX9_source_6 (by rw [q14]; decide) (by rw [q14]; decide) (by rw [q14]; rfl) (by decide) ?_
          exact zno9 (by simp only [zno, ite_self]) hf
        · rw [if_neg q14] at hf
          have w9 : ∀ k : Nat, k < 4 → ¬ x2 = Int32.ofInt ((0 : Int) + k) := by
            intro k hk
            match k, hk with
            | 0, _ => exact q2
            | 1, _ => exact q6
            | 2, _ => exact q10
            | 3, _ => exact q14
            | k + 4, hk => exact absurd hk (by omega)
          refine z_tableOut C 76 dX9_source_6 (zsw 0 4 w9 (by decide)) (by decide) ?_
          cases hf
          exact z_throw 1 (by omega) C hT hl0 hx hRm (by omega) (by omega) (by decide) (by decide) rfl rfl dX9_source_76 dX9_source_79 dX9_source_80 dX9_source_83

set_option maxRecDepth 100000 in
set_option maxHeartbeats 4000000 in
theorem mtX9_record (l : Launch) (D : va_G) (Ca : Nat → ClassId) (B : Nat) (En : State → Prop) (hE : zEk B En) (hT : ∀ U, En U → zThr B U) (hl0 : l.stackTraces = false) (σ : zS) (N : Nat) (x0 : Nat) (x1 : Int32) (x2 : Int32) (x3 : Int32) (h13 : (σ.1 x0).1 = 13) (k : Nat) (hf : tX9_record σ x0 x1 x2 x3 = some k) : zMx l D Ca B En yX9_record cX9_record 5 (Option.some Jvm.ClassFile.FieldType.int) 7 102 [.ref x0, .int x1, .int x2, .int x3] σ N k := by
  refine zMet_x (own := RX9) hE (by decide +kernel) rfl (Nat.le_of_ble_eq_true rfl) (fun p e s m args below meth c C hx hRm => ?_)
  unfold tX9_record at hf
  refine z_aload_n C dX9_record_0 rfl 0 rfl ?_
  refine z_iload_n C dX9_record_1 rfl 1 rfl ?_
  refine ztc hf (fun t9 => ?_) (fun t9 hg => ?_)
  · exact z_xV (As := [.int x1]) (F0 := 7) (L0 := 102) C (mtX9_needSource l D Ca B En C.2.2.2.2.2.2.2.1 hT hl0 σ N x0 x1 _ t9) hRm h13 rfl kw_873 kw_1 kw_870 kw_872 kp_31 hyX9_needSource (Nat.le_of_ble_eq_true rfl) (Nat.le_of_ble_eq_true rfl) rfl rfl (Nat.le_of_ble_eq_true rfl) dX9_record_2 hx (Nat.le_of_ble_eq_true rfl) (Nat.le_of_ble_eq_true rfl) rfl rfl
  replace hf := hg
  clear hg
  replace hf := zbind hf
  obtain ⟨c1, hc1, hf⟩ := hf
  obtain ⟨kc1, hc1⟩ := zck_ok hc1
  refine z_callVv (As := [.int x1]) (F0 := 7) (L0 := 102) C (mX9_needSource l D Ca B En C.2.2.2.2.2.2.2.1 σ N x0 x1 _ hc1) hRm kc1 rfl kw_873 kw_1 kw_870 kw_872 kp_31 hyX9_needSource (Nat.le_of_ble_eq_true rfl) (Nat.le_of_ble_eq_true rfl) rfl rfl (Nat.le_of_ble_eq_true rfl) dX9_record_2 ?_
  have sc1 : c1 = σ := saX9_needSource hc1
  subst sc1
  refine z_iload_n C dX9_record_5 rfl 2 rfl ?_
  refine z_if_lt C 31 dX9_record_6 (by decide) (fun q14 => ?_) (fun q14 => ?_)
  · rw [if_pos q14] at hf
    cases hf
    exact z_throw 1 (by omega) C hT hl0 hx hRm (by omega) (by omega) (by decide) (by decide) rfl rfl dX9_record_31 dX9_record_34 dX9_record_35 dX9_record_38
  · rw [if_neg q14] at hf
    refine z_iload_n C dX9_record_9 rfl 2 rfl ?_
    refine z_aload_n C dX9_record_10 rfl 0 rfl ?_
    replace hf := zbind hf
    obtain ⟨v2, hv2, hf⟩ := hf
    refine gf_RX9_35 C hv2 dX9_record_11 ?_
    replace hf := zbind hf
    obtain ⟨v3, hv3, hf⟩ := hf
    refine gf_RX9_142 C hv3 dX9_record_14 ?_
    refine z_iload_n C dX9_record_17 rfl 1 rfl ?_
    replace hf := zbind hf
    obtain ⟨v4, hv4, hf⟩ := hf
    refine z_aI C hv4 dX9_record_18 ?_
    refine z_icmp_ge C 31 dX9_record_19 (by decide) (fun q13 => ?_) (fun q13 => ?_)
    · rw [if_pos q13] at hf
      cases hf
      exact z_throw 1 (by omega) C hT hl0 hx hRm (by omega) (by omega) (by decide) (by decide) rfl rfl dX9_record_31 dX9_record_34 dX9_record_35 dX9_record_38
    · rw [if_neg q13] at hf
      refine z_iload_n C dX9_record_22 rfl 3 rfl ?_
      refine z_if_lt C 31 dX9_record_23 (by decide) (fun q12 => ?_) (fun q12 => ?_)
      · rw [if_pos q12] at hf
        cases hf
        exact z_throw 1 (by omega) C hT hl0 hx hRm (by omega) (by omega) (by decide) (by decide) rfl rfl dX9_record_31 dX9_record_34 dX9_record_35 dX9_record_38
      · rw [if_neg q12] at hf
        refine z_iload_n C dX9_record_26 rfl 3 rfl ?_
        refine z_iconst C (zi 1) dX9_record_27 (by decide) ?_
        refine z_icmp_le C 39 dX9_record_28 (by decide) (fun q11 => ?_) (fun q11 => ?_)
        · rw [if_pos q11] at hf
          exact zno9 (by simp only [zno, ite_self]) hf
        · rw [if_neg q11] at hf
          cases hf
          exact z_throw 1 (by omega) C hT hl0 hx hRm (by omega) (by omega) (by decide) (by decide) rfl rfl dX9_record_31 dX9_record_34 dX9_record_35 dX9_record_38

set_option maxRecDepth 100000 in
set_option maxHeartbeats 4000000 in
theorem mtX9_owner (l : Launch) (D : va_G) (Ca : Nat → ClassId) (B : Nat) (En : State → Prop) (hE : zEk B En) (hT : ∀ U, En U → zThr B U) (hl0 : l.stackTraces = false) (σ : zS) (N : Nat) (x0 : Nat) (x1 : Int32) (h13 : (σ.1 x0).1 = 13) (k : Nat) (hf : tX9_owner σ x0 x1 = some k) : zMx l D Ca B En yX9_owner cX9_owner 2 (Option.some Jvm.ClassFile.FieldType.int) 7 101 [.ref x0, .int x1] σ N k := by
  refine zMet_x (own := RX9) hE (by decide +kernel) rfl (Nat.le_of_ble_eq_true rfl) (fun p e s m args below meth c C hx hRm => ?_)
  unfold tX9_owner at hf
  refine z_iload_n C dX9_owner_0 rfl 1 rfl ?_
  refine ztc hf (fun t9 => ?_) (fun t9 hg => ?_)
  · exact z_xS (As := [.int x1]) (F0 := 7) (L0 := 101) C (mtX9_needKey l D Ca B En C.2.2.2.2.2.2.2.1 hT hl0 σ N x1 _ t9) hRm kw_958 kw_1 kw_956 kw_957 hyX9_needKey (Nat.le_of_ble_eq_true rfl) (Nat.le_of_ble_eq_true rfl) rfl rfl (Nat.le_of_ble_eq_true rfl) dX9_owner_1 hx (Nat.le_of_ble_eq_true rfl) (Nat.le_of_ble_eq_true rfl) rfl rfl
  replace hf := hg
  clear hg
  replace hf := zbind hf
  obtain ⟨c1, hc1, hf⟩ := hf
  refine z_callSv (As := [.int x1]) (F0 := 7) (L0 := 101) C (mX9_needKey l D Ca B En C.2.2.2.2.2.2.2.1 σ N x1 _ hc1) hRm kw_958 kw_1 kw_956 kw_957 hyX9_needKey (Nat.le_of_ble_eq_true rfl) (Nat.le_of_ble_eq_true rfl) rfl rfl (Nat.le_of_ble_eq_true rfl) dX9_owner_1 ?_
  have sc1 : c1 = σ := saX9_needKey hc1
  subst sc1
  refine z_iload_n C dX9_owner_4 rfl 1 rfl ?_
  refine z_aload_n C dX9_owner_5 rfl 0 rfl ?_
  replace hf := zbind hf
  obtain ⟨v2, hv2, hf⟩ := hf
  refine gf_RX9_50 C hv2 dX9_owner_6 ?_
  replace hf := zbind hf
  obtain ⟨v3, hv3, hf⟩ := hf
  refine gf_RX9_98 C hv3 dX9_owner_9 ?_
  replace hf := zbind hf
  obtain ⟨c4, hc4, hf⟩ := hf
  refine z_callSi (As := [.int x1, .int v3]) (F0 := 7) (L0 := 101) C (mX9_ownerOf l D Ca B En C.2.2.2.2.2.2.2.1 c1 N x1 v3 _ hc4) hRm kw_758 kw_1 kw_974 kw_757 hyX9_ownerOf (Nat.le_of_ble_eq_true rfl) (Nat.le_of_ble_eq_true rfl) rfl rfl (Nat.le_of_ble_eq_true rfl) dX9_owner_12 ?_
  cases hf

set_option maxRecDepth 100000 in
set_option maxHeartbeats 4000000 in
theorem mtX9_sum (l : Launch) (D : va_G) (Ca : Nat → ClassId) (B : Nat) (En : State → Prop) (hE : zEk B En) (hT : ∀ U, En U → zThr B U) (hl0 : l.stackTraces = false) (σ : zS) (N : Nat) (x0 : Nat) (x1 : Int32) (h13 : (σ.1 x0).1 = 13) (k : Nat) (hf : tX9_sum σ x0 x1 = some k) : zMx l D Ca B En yX9_sum cX9_sum 2 (Option.some Jvm.ClassFile.FieldType.int) 7 101 [.ref x0, .int x1] σ N k := by
  refine zMet_x (own := RX9) hE (by decide +kernel) rfl (Nat.le_of_ble_eq_true rfl) (fun p e s m args below meth c C hx hRm => ?_)
  unfold tX9_sum at hf
  refine z_iload_n C dX9_sum_0 rfl 1 rfl ?_
  refine ztc hf (fun t9 => ?_) (fun t9 hg => ?_)
  · exact z_xS (As := [.int x1]) (F0 := 7) (L0 := 101) C (mtX9_needKey l D Ca B En C.2.2.2.2.2.2.2.1 hT hl0 σ N x1 _ t9) hRm kw_958 kw_1 kw_956 kw_957 hyX9_needKey (Nat.le_of_ble_eq_true rfl) (Nat.le_of_ble_eq_true rfl) rfl rfl (Nat.le_of_ble_eq_true rfl) dX9_sum_1 hx (Nat.le_of_ble_eq_true rfl) (Nat.le_of_ble_eq_true rfl) rfl rfl
  replace hf := hg
  clear hg
  replace hf := zbind hf
  obtain ⟨c1, hc1, hf⟩ := hf
  refine z_callSv (As := [.int x1]) (F0 := 7) (L0 := 101) C (mX9_needKey l D Ca B En C.2.2.2.2.2.2.2.1 σ N x1 _ hc1) hRm kw_958 kw_1 kw_956 kw_957 hyX9_needKey (Nat.le_of_ble_eq_true rfl) (Nat.le_of_ble_eq_true rfl) rfl rfl (Nat.le_of_ble_eq_true rfl) dX9_sum_1 ?_
  have sc1 : c1 = σ := saX9_needKey hc1
  subst sc1
  refine z_aload_n C dX9_sum_4 rfl 0 rfl ?_
  replace hf := zbind hf
  obtain ⟨v2, hv2, hf⟩ := hf
  refine gf_RX9_50 C hv2 dX9_sum_5 ?_
  replace hf := zbind hf
  obtain ⟨v3, hv3, hf⟩ := hf
  refine gf_RX9_175 C hv3 dX9_sum_8 ?_
  refine z_iload_n C dX9_sum_11 rfl 1 rfl ?_
  replace hf := zbind hf
  obtain ⟨v4, hv4, hf⟩ := hf
  refine z_aI C hv4 dX9_sum_12 ?_
  cases hf

set_option maxRecDepth 100000 in
set_option maxHeartbeats 4000000 in
theorem mtX9_instance (l : Launch) (D : va_G) (Ca : Nat → ClassId) (B : Nat) (En : State → Prop) (hE : zEk B En) (hT : ∀ U, En U → zThr B U) (hl0 : l.stackTraces = false) (σ : zS) (N : Nat) (x0 : Nat) (x1 : Int32) (x2 : Int32) (h13 : (σ.1 x0).1 = 13) (k : Nat) (hf : tX9_instance σ x0 x1 x2 = some k) : zMx l D Ca B En yX9_instance cX9_instance 3 (Option.some Jvm.ClassFile.FieldType.int) 7 102 [.ref x0, .int x1, .int x2] σ N k := by
  refine zMet_x (own := RX9) hE (by decide +kernel) rfl (Nat.le_of_ble_eq_true rfl) (fun p e s m args below meth c C hx hRm => ?_)
  unfold tX9_instance at hf
  refine z_aload_n C dX9_instance_0 rfl 0 rfl ?_
  refine z_iload_n C dX9_instance_1 rfl 1 rfl ?_
  refine ztc hf (fun t9 => ?_) (fun t9 hg => ?_)
  · exact z_xV (As := [.int x1]) (F0 := 7) (L0 := 102) C (mtX9_needInstance l D Ca B En C.2.2.2.2.2.2.2.1 hT hl0 σ N x0 x1 _ t9) hRm h13 rfl kw_992 kw_1 kw_989 kw_991 kp_33 hyX9_needInstance (Nat.le_of_ble_eq_true rfl) (Nat.le_of_ble_eq_true rfl) rfl rfl (Nat.le_of_ble_eq_true rfl) dX9_instance_2 hx (Nat.le_of_ble_eq_true rfl) (Nat.le_of_ble_eq_true rfl) rfl rfl
  replace hf := hg
  clear hg
  replace hf := zbind hf
  obtain ⟨c1, hc1, hf⟩ := hf
  obtain ⟨kc1, hc1⟩ := zck_ok hc1
  refine z_callVv (As := [.int x1]) (F0 := 7) (L0 := 102) C (mX9_needInstance l D Ca B En C.2.2.2.2.2.2.2.1 σ N x0 x1 _ hc1) hRm kc1 rfl kw_992 kw_1 kw_989 kw_991 kp_33 hyX9_needInstance (Nat.le_of_ble_eq_true rfl) (Nat.le_of_ble_eq_true rfl) rfl rfl (Nat.le_of_ble_eq_true rfl) dX9_instance_2 ?_
  have sc1 : c1 = σ := saX9_needInstance hc1
  subst sc1
  refine z_iload_n C dX9_instance_5 rfl 2 rfl ?_
  by_cases q2 : x2 = (zi 0)
  · rw [if_pos q2] at hf
    refine z_tableIn C 40 dX9_instance_6 (by rw [q2]; decide) (by rw [q2]; decide) (by rw [q2]; rfl) (by decide) ?_
    exact zno9 (by simp only [zno, ite_self]) hf
  · rw [if_neg q2] at hf
    by_cases q6 : x2 = (zi 1)
    · rw [if_pos q6] at hf
      refine z_tableIn C 52 dX9_instance_6 (by rw [q6]; decide) (by rw [q6]; decide) (by rw [q6]; rfl) (by decide) ?_
      exact zno9 (by simp only [zno, ite_self]) hf
    · rw [if_neg q6] at hf
      by_cases q10 : x2 = (zi 2)
      · rw [if_pos q10] at hf
        refine z_tableIn C 62 dX9_instance_6 (by rw [q10]; decide) (by rw [q10]; decide) (by rw [q10]; rfl) (by decide) ?_
        exact zno9 (by simp only [zno, ite_self]) hf
      · rw [if_neg q10] at hf
        by_cases q14 : x2 = (zi 3)
        · rw [if_pos q14] at hf
          refine z_tableIn C 72 dX9_instance_6 (by rw [q14]; decide) (by rw [q14]; decide) (by rw [q14]; rfl) (by decide) ?_
          exact zno9 (by simp only [zno, ite_self]) hf
        · rw [if_neg q14] at hf
          by_cases q17 : x2 = (zi 4)
          · rw [if_pos q17] at hf
            refine z_tableIn C 81 dX9_instance_6 (by rw [q17]; decide) (by rw [q17]; decide) (by rw [q17]; rfl) (by decide) ?_
            exact zno9 (by simp only [zno, ite_self]) hf
          · rw [if_neg q17] at hf
            have w9 : ∀ k : Nat, k < 5 → ¬ x2 = Int32.ofInt ((0 : Int) + k) := by
              intro k hk
              match k, hk with
              | 0, _ => exact q2
              | 1, _ => exact q6
              | 2, _ => exact q10
              | 3, _ => exact q14
              | 4, _ => exact q17
              | k + 5, hk => exact absurd hk (by omega)
            refine z_tableOut C 90 dX9_instance_6 (zsw 0 5 w9 (by decide)) (by decide) ?_
            cases hf
            exact z_throw 1 (by omega) C hT hl0 hx hRm (by omega) (by omega) (by decide) (by decide) rfl rfl dX9_instance_90 dX9_instance_93 dX9_instance_94 dX9_instance_97

set_option maxRecDepth 100000 in
set_option maxHeartbeats 4000000 in
theorem mtX9_sink (l : Launch) (D : va_G) (Ca : Nat → ClassId) (B : Nat) (En : State → Prop) (hE : zEk B En) (hT : ∀ U, En U → zThr B U) (hl0 : l.stackTraces = false) (σ : zS) (N : Nat) (x0 : Nat) (x1 : Int32) (x2 : Int32) (h13 : (σ.1 x0).1 = 13) (k : Nat) (hf : tX9_sink σ x0 x1 x2 = some k) : zMx l D Ca B En yX9_sink cX9_sink 3 (Option.some Jvm.ClassFile.FieldType.int) 7 102 [.ref x0, .int x1, .int x2] σ N k := by
  refine zMet_x (own := RX9) hE (by decide +kernel) rfl (Nat.le_of_ble_eq_true rfl) (fun p e s m args below meth c C hx hRm => ?_)
  unfold tX9_sink at hf
  refine z_aload_n C dX9_sink_0 rfl 0 rfl ?_
  refine z_iload_n C dX9_sink_1 rfl 1 rfl ?_
  refine ztc hf (fun t9 => ?_) (fun t9 hg => ?_)
  · exact z_xV (As := [.int x1]) (F0 := 7) (L0 := 102) C (mtX9_needSink l D Ca B En C.2.2.2.2.2.2.2.1 hT hl0 σ N x0 x1 _ t9) hRm h13 rfl kw_1014 kw_1 kw_1011 kw_1013 kp_34 hyX9_needSink (Nat.le_of_ble_eq_true rfl) (Nat.le_of_ble_eq_true rfl) rfl rfl (Nat.le_of_ble_eq_true rfl) dX9_sink_2 hx (Nat.le_of_ble_eq_true rfl) (Nat.le_of_ble_eq_true rfl) rfl rfl
  replace hf := hg
  clear hg
  replace hf := zbind hf
  obtain ⟨c1, hc1, hf⟩ := hf
  obtain ⟨kc1, hc1⟩ := zck_ok hc1
  refine z_callVv (As := [.int x1]) (F0 := 7) (L0 := 102) C (mX9_needSink l D Ca B En C.2.2.2.2.2.2.2.1 σ N x0 x1 _ hc1) hRm kc1 rfl kw_1014 kw_1 kw_1011 kw_1013 kp_34 hyX9_needSink (Nat.le_of_ble_eq_true rfl) (Nat.le_of_ble_eq_true rfl) rfl rfl (Nat.le_of_ble_eq_true rfl) dX9_sink_2 ?_
  have sc1 : c1 = σ := saX9_needSink hc1
  subst sc1
  refine z_iload_n C dX9_sink_5 rfl 2 rfl ?_
  by_cases q2 : x2 = (zi 0)
  · rw [if_pos q2] at hf
    refine z_tableIn C 36 dX9_sink_6 (by rw [q2]; decide) (by rw [q2]; decide) (by rw [q2]; rfl) (by decide) ?_
    exact zno9 (by simp only [zno, ite_self]) hf
  · rw [if_neg q2] at hf
    by_cases q6 : x2 = (zi 1)
    · rw [if_pos q6] at hf
      refine z_tableIn C 51 dX9_sink_6 (by rw [q6]; decide) (by rw [q6]; decide) (by rw [q6]; rfl) (by decide) ?_
      exact zno9 (by simp only [zno, ite_self]) hf
    · rw [if_neg q6] at hf
      by_cases q10 : x2 = (zi 2)
      · rw [if_pos q10] at hf
        refine z_tableIn C 66 dX9_sink_6 (by rw [q10]; decide) (by rw [q10]; decide) (by rw [q10]; rfl) (by decide) ?_
        exact zno9 (by simp only [zno, ite_self]) hf
      · rw [if_neg q10] at hf
        by_cases q14 : x2 = (zi 3)
        · rw [if_pos q14] at hf
          refine z_tableIn C 81 dX9_sink_6 (by rw [q14]; decide) (by rw [q14]; decide) (by rw [q14]; rfl) (by decide) ?_
          exact zno9 (by simp only [zno, ite_self]) hf
        · rw [if_neg q14] at hf
          have w9 : ∀ k : Nat, k < 4 → ¬ x2 = Int32.ofInt ((0 : Int) + k) := by
            intro k hk
            match k, hk with
            | 0, _ => exact q2
            | 1, _ => exact q6
            | 2, _ => exact q10
            | 3, _ => exact q14
            | k + 4, hk => exact absurd hk (by omega)
          refine z_tableOut C 93 dX9_sink_6 (zsw 0 4 w9 (by decide)) (by decide) ?_
          cases hf
          exact z_throw 1 (by omega) C hT hl0 hx hRm (by omega) (by omega) (by decide) (by decide) rfl rfl dX9_sink_93 dX9_sink_96 dX9_sink_97 dX9_sink_100

set_option maxRecDepth 100000 in
set_option maxHeartbeats 4000000 in
theorem mtX9_shown (l : Launch) (D : va_G) (Ca : Nat → ClassId) (B : Nat) (En : State → Prop) (hE : zEk B En) (hT : ∀ U, En U → zThr B U) (hl0 : l.stackTraces = false) (σ : zS) (N : Nat) (x0 : Nat) (x1 : Int32) (x2 : Int32) (x3 : Int32) (h13 : (σ.1 x0).1 = 13) (k : Nat) (hf : tX9_shown σ x0 x1 x2 x3 = some k) : zMx l D Ca B En yX9_shown cX9_shown 5 (Option.some Jvm.ClassFile.FieldType.int) 7 102 [.ref x0, .int x1, .int x2, .int x3] σ N k := by
  refine zMet_x (own := RX9) hE (by decide +kernel) rfl (Nat.le_of_ble_eq_true rfl) (fun p e s m args below meth c C hx hRm => ?_)
  unfold tX9_shown at hf
  refine z_aload_n C dX9_shown_0 rfl 0 rfl ?_
  refine z_iload_n C dX9_shown_1 rfl 1 rfl ?_
  refine ztc hf (fun t9 => ?_) (fun t9 hg => ?_)
  · exact z_xV (As := [.int x1]) (F0 := 7) (L0 := 102) C (mtX9_needSink l D Ca B En C.2.2.2.2.2.2.2.1 hT hl0 σ N x0 x1 _ t9) hRm h13 rfl kw_1014 kw_1 kw_1011 kw_1013 kp_34 hyX9_needSink (Nat.le_of_ble_eq_true rfl) (Nat.le_of_ble_eq_true rfl) rfl rfl (Nat.le_of_ble_eq_true rfl) dX9_shown_2 hx (Nat.le_of_ble_eq_true rfl) (Nat.le_of_ble_eq_true rfl) rfl rfl
  replace hf := hg
  clear hg
  replace hf := zbind hf
  obtain ⟨c1, hc1, hf⟩ := hf
  obtain ⟨kc1, hc1⟩ := zck_ok hc1
  refine z_callVv (As := [.int x1]) (F0 := 7) (L0 := 102) C (mX9_needSink l D Ca B En C.2.2.2.2.2.2.2.1 σ N x0 x1 _ hc1) hRm kc1 rfl kw_1014 kw_1 kw_1011 kw_1013 kp_34 hyX9_needSink (Nat.le_of_ble_eq_true rfl) (Nat.le_of_ble_eq_true rfl) rfl rfl (Nat.le_of_ble_eq_true rfl) dX9_shown_2 ?_
  have sc1 : c1 = σ := saX9_needSink hc1
  subst sc1
  refine z_iload_n C dX9_shown_5 rfl 3 rfl ?_
  refine z_if_lt C 14 dX9_shown_6 (by decide) (fun q12 => ?_) (fun q12 => ?_)
  · rw [if_pos q12] at hf
    cases hf
    exact z_throw 1 (by omega) C hT hl0 hx hRm (by omega) (by omega) (by decide) (by decide) rfl rfl dX9_shown_14 dX9_shown_17 dX9_shown_18 dX9_shown_21
  · rw [if_neg q12] at hf
    refine z_iload_n C dX9_shown_9 rfl 3 rfl ?_
    refine z_iconst C (zi 1) dX9_shown_10 (by decide) ?_
    refine z_icmp_le C 22 dX9_shown_11 (by decide) (fun q11 => ?_) (fun q11 => ?_)
    · rw [if_pos q11] at hf
      refine z_aload_n C dX9_shown_22 rfl 0 rfl ?_
      replace hf := zbind hf
      obtain ⟨v2, hv2, hf⟩ := hf
      refine gf_RX9_50 C hv2 dX9_shown_23 ?_
      replace hf := zbind hf
      obtain ⟨v3, hv3, hf⟩ := hf
      refine gf_RX9_199 C hv3 dX9_shown_26 ?_
      refine z_bipush C (zi 28) dX9_shown_29 (by decide) ?_
      refine z_iload_n C dX9_shown_31 rfl 1 rfl ?_
      refine z_iadd C dX9_shown_32 ?_
      refine z_iload_n C dX9_shown_33 rfl 2 rfl ?_
      replace hf := zbind hf
      obtain ⟨c4, hc4, hf⟩ := hf
      obtain ⟨kc4, hc4⟩ := zck_ok hc4
      refine z_callVi (As := [.int (((zi 28)) + x1), .int x2]) (F0 := 7) (L0 := 102) C (mX3_at l D Ca B En C.2.2.2.2.2.2.2.1 c1 N v3 (((zi 28)) + x1) x2 _ hc4) hRm kc4 rfl kw_1026 kw_9 kw_1023 kw_1024 kw_1025 hyX3_at (Nat.le_of_ble_eq_true rfl) (Nat.le_of_ble_eq_true rfl) rfl rfl (Nat.le_of_ble_eq_true rfl) dX9_shown_34 ?_
      have sc4 : c4.1 = c1 := saX3_at hc4
      subst sc4
      refine z_istore (lv2 := [(4, .int c4.2), (0, .ref x0), (1, .int x1), (2, .int x2), (3, .int x3)]) C dX9_shown_37 (by decide) rfl ?_
      refine z_iload C dX9_shown_39 0 rfl ?_
      refine z_iconst C (zi (-1)) dX9_shown_41 (by decide) ?_
      refine z_icmp_ne C 53 dX9_shown_42 (by decide) (fun q10 => ?_) (fun q10 => ?_)
      · rw [if_neg q10] at hf
        exact zno9 (by simp only [zno, ite_self]) hf
      · rw [if_pos q10] at hf
        cases hf
        exact z_throw 4 (by omega) C hT hl0 hx hRm (by omega) (by omega) (by decide) (by decide) rfl rfl dX9_shown_45 dX9_shown_48 dX9_shown_49 dX9_shown_52
    · rw [if_neg q11] at hf
      cases hf
      exact z_throw 1 (by omega) C hT hl0 hx hRm (by omega) (by omega) (by decide) (by decide) rfl rfl dX9_shown_14 dX9_shown_17 dX9_shown_18 dX9_shown_21

set_option maxRecDepth 100000 in
set_option maxHeartbeats 4000000 in
theorem mtX9_inChannel (l : Launch) (D : va_G) (Ca : Nat → ClassId) (B : Nat) (En : State → Prop) (hE : zEk B En) (hT : ∀ U, En U → zThr B U) (hl0 : l.stackTraces = false) (σ : zS) (N : Nat) (x0 : Nat) (x1 : Int32) (x2 : Int32) (x3 : Int32) (h13 : (σ.1 x0).1 = 13) (k : Nat) (hf : tX9_inChannel σ x0 x1 x2 x3 = some k) : zMx l D Ca B En yX9_inChannel cX9_inChannel 4 (Option.some Jvm.ClassFile.FieldType.int) 7 102 [.ref x0, .int x1, .int x2, .int x3] σ N k := by
  refine zMet_x (own := RX9) hE (by decide +kernel) rfl (Nat.le_of_ble_eq_true rfl) (fun p e s m args below meth c C hx hRm => ?_)
  unfold tX9_inChannel at hf
  refine z_aload_n C dX9_inChannel_0 rfl 0 rfl ?_
  refine z_iload_n C dX9_inChannel_1 rfl 1 rfl ?_
  refine ztc hf (fun t9 => ?_) (fun t9 hg => ?_)
  · exact z_xV (As := [.int x1]) (F0 := 7) (L0 := 102) C (mtX9_needSource l D Ca B En C.2.2.2.2.2.2.2.1 hT hl0 σ N x0 x1 _ t9) hRm h13 rfl kw_873 kw_1 kw_870 kw_872 kp_31 hyX9_needSource (Nat.le_of_ble_eq_true rfl) (Nat.le_of_ble_eq_true rfl) rfl rfl (Nat.le_of_ble_eq_true rfl) dX9_inChannel_2 hx (Nat.le_of_ble_eq_true rfl) (Nat.le_of_ble_eq_true rfl) rfl rfl
  replace hf := hg
  clear hg
  replace hf := zbind hf
  obtain ⟨c1, hc1, hf⟩ := hf
  obtain ⟨kc1, hc1⟩ := zck_ok hc1
  refine z_callVv (As := [.int x1]) (F0 := 7) (L0 := 102) C (mX9_needSource l D Ca B En C.2.2.2.2.2.2.2.1 σ N x0 x1 _ hc1) hRm kc1 rfl kw_873 kw_1 kw_870 kw_872 kp_31 hyX9_needSource (Nat.le_of_ble_eq_true rfl) (Nat.le_of_ble_eq_true rfl) rfl rfl (Nat.le_of_ble_eq_true rfl) dX9_inChannel_2 ?_
  have sc1 : c1 = σ := saX9_needSource hc1
  subst sc1
  refine z_aload_n C dX9_inChannel_5 rfl 0 rfl ?_
  refine z_iload_n C dX9_inChannel_6 rfl 2 rfl ?_
  refine ztc hf (fun t9 => ?_) (fun t9 hg => ?_)
  · exact z_xV (As := [.int x2]) (F0 := 7) (L0 := 102) C (mtX9_needInstance l D Ca B En C.2.2.2.2.2.2.2.1 hT hl0 c1 N x0 x2 _ t9) hRm h13 rfl kw_992 kw_1 kw_989 kw_991 kp_33 hyX9_needInstance (Nat.le_of_ble_eq_true rfl) (Nat.le_of_ble_eq_true rfl) rfl rfl (Nat.le_of_ble_eq_true rfl) dX9_inChannel_7 hx (Nat.le_of_ble_eq_true rfl) (Nat.le_of_ble_eq_true rfl) rfl rfl
  replace hf := hg
  clear hg
  replace hf := zbind hf
  obtain ⟨c2, hc2, hf⟩ := hf
  obtain ⟨kc2, hc2⟩ := zck_ok hc2
  refine z_callVv (As := [.int x2]) (F0 := 7) (L0 := 102) C (mX9_needInstance l D Ca B En C.2.2.2.2.2.2.2.1 c1 N x0 x2 _ hc2) hRm kc2 rfl kw_992 kw_1 kw_989 kw_991 kp_33 hyX9_needInstance (Nat.le_of_ble_eq_true rfl) (Nat.le_of_ble_eq_true rfl) rfl rfl (Nat.le_of_ble_eq_true rfl) dX9_inChannel_7 ?_
  have sc2 : c2 = c1 := saX9_needInstance hc2
  subst sc2
  refine z_aload_n C dX9_inChannel_10 rfl 0 rfl ?_
  replace hf := zbind hf
  obtain ⟨v3, hv3, hf⟩ := hf
  refine gf_RX9_50 C hv3 dX9_inChannel_11 ?_
  refine z_iload_n C dX9_inChannel_14 rfl 2 rfl ?_
  refine z_iload_n C dX9_inChannel_15 rfl 1 rfl ?_
  replace hf := zbind hf
  obtain ⟨c4, hc4, hf⟩ := hf
  refine z_callSi (As := [.int x2, .int x1]) (F0 := 7) (L0 := 102) C (mX9_channel l D Ca B En C.2.2.2.2.2.2.2.1 c2 N x2 x1 _ hc4) hRm kw_686 kw_1 kw_684 kw_685 hyX9_channel (Nat.le_of_ble_eq_true rfl) (Nat.le_of_ble_eq_true rfl) rfl rfl (Nat.le_of_ble_eq_true rfl) dX9_inChannel_16 ?_
  refine z_iload_n C dX9_inChannel_19 rfl 3 rfl ?_
  replace hf := zbind hf
  obtain ⟨c5, hc5, hf⟩ := hf
  obtain ⟨kc5, hc5⟩ := zck_ok hc5
  refine z_callVi (As := [.int c4.2, .int x3]) (F0 := 7) (L0 := 102) C (mX1_thingsIn l D Ca B En C.2.2.2.2.2.2.2.1 c4.1 N v3 c4.2 x3 _ hc5) hRm kc5 rfl kw_1058 kw_8 kw_1055 kw_1056 kw_1057 hyX1_thingsIn (Nat.le_of_ble_eq_true rfl) (Nat.le_of_ble_eq_true rfl) rfl rfl (Nat.le_of_ble_eq_true rfl) dX9_inChannel_20 ?_
  cases hf

set_option maxRecDepth 100000 in
set_option maxHeartbeats 4000000 in
theorem mtX9_outChannel (l : Launch) (D : va_G) (Ca : Nat → ClassId) (B : Nat) (En : State → Prop) (hE : zEk B En) (hT : ∀ U, En U → zThr B U) (hl0 : l.stackTraces = false) (σ : zS) (N : Nat) (x0 : Nat) (x1 : Int32) (x2 : Int32) (x3 : Int32) (h13 : (σ.1 x0).1 = 13) (k : Nat) (hf : tX9_outChannel σ x0 x1 x2 x3 = some k) : zMx l D Ca B En yX9_outChannel cX9_outChannel 4 (Option.some Jvm.ClassFile.FieldType.int) 7 102 [.ref x0, .int x1, .int x2, .int x3] σ N k := by
  refine zMet_x (own := RX9) hE (by decide +kernel) rfl (Nat.le_of_ble_eq_true rfl) (fun p e s m args below meth c C hx hRm => ?_)
  unfold tX9_outChannel at hf
  refine z_aload_n C dX9_outChannel_0 rfl 0 rfl ?_
  refine z_iload_n C dX9_outChannel_1 rfl 1 rfl ?_
  refine ztc hf (fun t9 => ?_) (fun t9 hg => ?_)
  · exact z_xV (As := [.int x1]) (F0 := 7) (L0 := 102) C (mtX9_needInstance l D Ca B En C.2.2.2.2.2.2.2.1 hT hl0 σ N x0 x1 _ t9) hRm h13 rfl kw_992 kw_1 kw_989 kw_991 kp_33 hyX9_needInstance (Nat.le_of_ble_eq_true rfl) (Nat.le_of_ble_eq_true rfl) rfl rfl (Nat.le_of_ble_eq_true rfl) dX9_outChannel_2 hx (Nat.le_of_ble_eq_true rfl) (Nat.le_of_ble_eq_true rfl) rfl rfl
  replace hf := hg
  clear hg
  replace hf := zbind hf
  obtain ⟨c1, hc1, hf⟩ := hf
  obtain ⟨kc1, hc1⟩ := zck_ok hc1
  refine z_callVv (As := [.int x1]) (F0 := 7) (L0 := 102) C (mX9_needInstance l D Ca B En C.2.2.2.2.2.2.2.1 σ N x0 x1 _ hc1) hRm kc1 rfl kw_992 kw_1 kw_989 kw_991 kp_33 hyX9_needInstance (Nat.le_of_ble_eq_true rfl) (Nat.le_of_ble_eq_true rfl) rfl rfl (Nat.le_of_ble_eq_true rfl) dX9_outChannel_2 ?_
  have sc1 : c1 = σ := saX9_needInstance hc1
  subst sc1
  refine z_aload_n C dX9_outChannel_5 rfl 0 rfl ?_
  refine z_iload_n C dX9_outChannel_6 rfl 2 rfl ?_
  refine ztc hf (fun t9 => ?_) (fun t9 hg => ?_)
  · exact z_xV (As := [.int x2]) (F0 := 7) (L0 := 102) C (mtX9_needSink l D Ca B En C.2.2.2.2.2.2.2.1 hT hl0 c1 N x0 x2 _ t9) hRm h13 rfl kw_1014 kw_1 kw_1011 kw_1013 kp_34 hyX9_needSink (Nat.le_of_ble_eq_true rfl) (Nat.le_of_ble_eq_true rfl) rfl rfl (Nat.le_of_ble_eq_true rfl) dX9_outChannel_7 hx (Nat.le_of_ble_eq_true rfl) (Nat.le_of_ble_eq_true rfl) rfl rfl
  replace hf := hg
  clear hg
  replace hf := zbind hf
  obtain ⟨c2, hc2, hf⟩ := hf
  obtain ⟨kc2, hc2⟩ := zck_ok hc2
  refine z_callVv (As := [.int x2]) (F0 := 7) (L0 := 102) C (mX9_needSink l D Ca B En C.2.2.2.2.2.2.2.1 c1 N x0 x2 _ hc2) hRm kc2 rfl kw_1014 kw_1 kw_1011 kw_1013 kp_34 hyX9_needSink (Nat.le_of_ble_eq_true rfl) (Nat.le_of_ble_eq_true rfl) rfl rfl (Nat.le_of_ble_eq_true rfl) dX9_outChannel_7 ?_
  have sc2 : c2 = c1 := saX9_needSink hc2
  subst sc2
  refine z_aload_n C dX9_outChannel_10 rfl 0 rfl ?_
  replace hf := zbind hf
  obtain ⟨v3, hv3, hf⟩ := hf
  refine gf_RX9_50 C hv3 dX9_outChannel_11 ?_
  refine z_iconst C (zi 4) dX9_outChannel_14 (by decide) ?_
  refine z_iload_n C dX9_outChannel_15 rfl 2 rfl ?_
  refine z_iadd C dX9_outChannel_16 ?_
  refine z_iload_n C dX9_outChannel_17 rfl 1 rfl ?_
  replace hf := zbind hf
  obtain ⟨c4, hc4, hf⟩ := hf
  refine z_callSi (As := [.int (((zi 4)) + x2), .int x1]) (F0 := 7) (L0 := 102) C (mX9_channel l D Ca B En C.2.2.2.2.2.2.2.1 c2 N (((zi 4)) + x2) x1 _ hc4) hRm kw_686 kw_1 kw_684 kw_685 hyX9_channel (Nat.le_of_ble_eq_true rfl) (Nat.le_of_ble_eq_true rfl) rfl rfl (Nat.le_of_ble_eq_true rfl) dX9_outChannel_18 ?_
  refine z_iload_n C dX9_outChannel_21 rfl 3 rfl ?_
  replace hf := zbind hf
  obtain ⟨c5, hc5, hf⟩ := hf
  obtain ⟨kc5, hc5⟩ := zck_ok hc5
  refine z_callVi (As := [.int c4.2, .int x3]) (F0 := 7) (L0 := 102) C (mX1_thingsIn l D Ca B En C.2.2.2.2.2.2.2.1 c4.1 N v3 c4.2 x3 _ hc5) hRm kc5 rfl kw_1058 kw_8 kw_1055 kw_1056 kw_1057 hyX1_thingsIn (Nat.le_of_ble_eq_true rfl) (Nat.le_of_ble_eq_true rfl) rfl rfl (Nat.le_of_ble_eq_true rfl) dX9_outChannel_22 ?_
  cases hf

set_option maxRecDepth 100000 in
set_option maxHeartbeats 4000000 in
theorem mtX9_progress (l : Launch) (D : va_G) (Ca : Nat → ClassId) (B : Nat) (En : State → Prop) (hE : zEk B En) (hT : ∀ U, En U → zThr B U) (hl0 : l.stackTraces = false) (σ : zS) (N : Nat) (x0 : Nat) (x1 : Int32) (h13 : (σ.1 x0).1 = 13) (k : Nat) (hf : tX9_progress σ x0 x1 = some k) : zMx l D Ca B En yX9_progress cX9_progress 3 (Option.some Jvm.ClassFile.FieldType.int) 6 81 [.ref x0, .int x1] σ N k := by
  refine zMet_x (own := RX9) hE (by decide +kernel) rfl (Nat.le_of_ble_eq_true rfl) (fun p e s m args below meth c C hx hRm => ?_)
  unfold tX9_progress at hf
  refine z_iload_n C dX9_progress_0 rfl 1 rfl ?_
  refine z_if_lt C 10 dX9_progress_1 (by decide) (fun q21 => ?_) (fun q21 => ?_)
  · rw [if_pos q21] at hf
    cases hf
    exact z_throw 2 (by omega) C hT hl0 hx hRm (by omega) (by omega) (by decide) (by decide) rfl rfl dX9_progress_10 dX9_progress_13 dX9_progress_14 dX9_progress_17
  · rw [if_neg q21] at hf
    refine z_iload_n C dX9_progress_4 rfl 1 rfl ?_
    refine z_bipush C (zi 6) dX9_progress_5 (by decide) ?_
    refine z_icmp_le C 18 dX9_progress_7 (by decide) (fun q20 => ?_) (fun q20 => ?_)
    · rw [if_pos q20] at hf
      exact zno9 (by simp only [zno, ite_self]) hf
    · rw [if_neg q20] at hf
      cases hf
      exact z_throw 2 (by omega) C hT hl0 hx hRm (by omega) (by omega) (by decide) (by decide) rfl rfl dX9_progress_10 dX9_progress_13 dX9_progress_14 dX9_progress_17

set_option maxRecDepth 100000 in
set_option maxHeartbeats 4000000 in
theorem mtX9_completed (l : Launch) (D : va_G) (Ca : Nat → ClassId) (B : Nat) (En : State → Prop) (hE : zEk B En) (hT : ∀ U, En U → zThr B U) (hl0 : l.stackTraces = false) (σ : zS) (N : Nat) (x0 : Nat) (x1 : Int32) (h13 : (σ.1 x0).1 = 13) (k : Nat) (hf : tX9_completed σ x0 x1 = some k) : zMx l D Ca B En yX9_completed cX9_completed 3 (Option.some Jvm.ClassFile.FieldType.int) 6 81 [.ref x0, .int x1] σ N k := by
  refine zMet_x (own := RX9) hE (by decide +kernel) rfl (Nat.le_of_ble_eq_true rfl) (fun p e s m args below meth c C hx hRm => ?_)
  unfold tX9_completed at hf
  refine z_iload_n C dX9_completed_0 rfl 1 rfl ?_
  refine z_if_lt C 9 dX9_completed_1 (by decide) (fun q19 => ?_) (fun q19 => ?_)
  · rw [if_pos q19] at hf
    cases hf
    exact z_throw 2 (by omega) C hT hl0 hx hRm (by omega) (by omega) (by decide) (by decide) rfl rfl dX9_completed_9 dX9_completed_12 dX9_completed_13 dX9_completed_16
  · rw [if_neg q19] at hf
    refine z_iload_n C dX9_completed_4 rfl 1 rfl ?_
    refine z_iconst C (zi 5) dX9_completed_5 (by decide) ?_
    refine z_icmp_le C 17 dX9_completed_6 (by decide) (fun q18 => ?_) (fun q18 => ?_)
    · rw [if_pos q18] at hf
      exact zno9 (by simp only [zno, ite_self]) hf
    · rw [if_neg q18] at hf
      cases hf
      exact z_throw 2 (by omega) C hT hl0 hx hRm (by omega) (by omega) (by decide) (by decide) rfl rfl dX9_completed_9 dX9_completed_12 dX9_completed_13 dX9_completed_16

set_option maxRecDepth 100000 in
set_option maxHeartbeats 4000000 in
theorem mtX9_notedPosition (l : Launch) (D : va_G) (Ca : Nat → ClassId) (B : Nat) (En : State → Prop) (hE : zEk B En) (hT : ∀ U, En U → zThr B U) (hl0 : l.stackTraces = false) (σ : zS) (N : Nat) (x0 : Nat) (x1 : Int32) (h13 : (σ.1 x0).1 = 13) (k : Nat) (hf : tX9_notedPosition σ x0 x1 = some k) : zMx l D Ca B En yX9_notedPosition cX9_notedPosition 2 (Option.some Jvm.ClassFile.FieldType.int) 7 102 [.ref x0, .int x1] σ N k := by
  refine zMet_x (own := RX9) hE (by decide +kernel) rfl (Nat.le_of_ble_eq_true rfl) (fun p e s m args below meth c C hx hRm => ?_)
  unfold tX9_notedPosition at hf
  refine z_aload_n C dX9_notedPosition_0 rfl 0 rfl ?_
  refine z_iload_n C dX9_notedPosition_1 rfl 1 rfl ?_
  refine ztc hf (fun t9 => ?_) (fun t9 hg => ?_)
  · exact z_xV (As := [.int x1]) (F0 := 7) (L0 := 102) C (mtX9_needSource l D Ca B En C.2.2.2.2.2.2.2.1 hT hl0 σ N x0 x1 _ t9) hRm h13 rfl kw_873 kw_1 kw_870 kw_872 kp_31 hyX9_needSource (Nat.le_of_ble_eq_true rfl) (Nat.le_of_ble_eq_true rfl) rfl rfl (Nat.le_of_ble_eq_true rfl) dX9_notedPosition_2 hx (Nat.le_of_ble_eq_true rfl) (Nat.le_of_ble_eq_true rfl) rfl rfl
  replace hf := hg
  clear hg
  replace hf := zbind hf
  obtain ⟨c1, hc1, hf⟩ := hf
  obtain ⟨kc1, hc1⟩ := zck_ok hc1
  refine z_callVv (As := [.int x1]) (F0 := 7) (L0 := 102) C (mX9_needSource l D Ca B En C.2.2.2.2.2.2.2.1 σ N x0 x1 _ hc1) hRm kc1 rfl kw_873 kw_1 kw_870 kw_872 kp_31 hyX9_needSource (Nat.le_of_ble_eq_true rfl) (Nat.le_of_ble_eq_true rfl) rfl rfl (Nat.le_of_ble_eq_true rfl) dX9_notedPosition_2 ?_
  have sc1 : c1 = σ := saX9_needSource hc1
  subst sc1
  refine z_aload_n C dX9_notedPosition_5 rfl 0 rfl ?_
  replace hf := zbind hf
  obtain ⟨v2, hv2, hf⟩ := hf
  refine gf_RX9_50 C hv2 dX9_notedPosition_6 ?_
  replace hf := zbind hf
  obtain ⟨v3, hv3, hf⟩ := hf
  refine gf_RX9_258 C hv3 dX9_notedPosition_9 ?_
  replace hf := zbind hf
  obtain ⟨c4, hc4, hf⟩ := hf
  obtain ⟨kc4, hc4⟩ := zck_ok hc4
  refine z_callVi (As := []) (F0 := 7) (L0 := 102) C (mX0_exists l D Ca B En C.2.2.2.2.2.2.2.1 c1 N v3  _ hc4) hRm kc4 rfl kw_318 kw_10 kw_717 kw_316 kw_317 hyX0_exists (Nat.le_of_ble_eq_true rfl) (Nat.le_of_ble_eq_true rfl) rfl rfl (Nat.le_of_ble_eq_true rfl) dX9_notedPosition_12 ?_
  have sc4 : c4.1 = c1 := saX0_exists hc4
  subst sc4
  refine z_if_eq C 33 dX9_notedPosition_15 (by decide) (fun q9 => ?_) (fun q9 => ?_)
  · rw [if_pos q9] at hf
    exact zno9 (by simp only [zno, ite_self]) hf
  · rw [if_neg q9] at hf
    exact zno9 (by simp only [zno, ite_self]) hf

set_option maxRecDepth 100000 in
set_option maxHeartbeats 4000000 in
theorem mtX9_notedSum (l : Launch) (D : va_G) (Ca : Nat → ClassId) (B : Nat) (En : State → Prop) (hE : zEk B En) (hT : ∀ U, En U → zThr B U) (hl0 : l.stackTraces = false) (σ : zS) (N : Nat) (x0 : Nat) (x1 : Int32) (h13 : (σ.1 x0).1 = 13) (k : Nat) (hf : tX9_notedSum σ x0 x1 = some k) : zMx l D Ca B En yX9_notedSum cX9_notedSum 2 (Option.some Jvm.ClassFile.FieldType.int) 7 101 [.ref x0, .int x1] σ N k := by
  refine zMet_x (own := RX9) hE (by decide +kernel) rfl (Nat.le_of_ble_eq_true rfl) (fun p e s m args below meth c C hx hRm => ?_)
  unfold tX9_notedSum at hf
  refine z_iload_n C dX9_notedSum_0 rfl 1 rfl ?_
  refine ztc hf (fun t9 => ?_) (fun t9 hg => ?_)
  · exact z_xS (As := [.int x1]) (F0 := 7) (L0 := 101) C (mtX9_needKey l D Ca B En C.2.2.2.2.2.2.2.1 hT hl0 σ N x1 _ t9) hRm kw_958 kw_1 kw_956 kw_957 hyX9_needKey (Nat.le_of_ble_eq_true rfl) (Nat.le_of_ble_eq_true rfl) rfl rfl (Nat.le_of_ble_eq_true rfl) dX9_notedSum_1 hx (Nat.le_of_ble_eq_true rfl) (Nat.le_of_ble_eq_true rfl) rfl rfl
  replace hf := hg
  clear hg
  replace hf := zbind hf
  obtain ⟨c1, hc1, hf⟩ := hf
  refine z_callSv (As := [.int x1]) (F0 := 7) (L0 := 101) C (mX9_needKey l D Ca B En C.2.2.2.2.2.2.2.1 σ N x1 _ hc1) hRm kw_958 kw_1 kw_956 kw_957 hyX9_needKey (Nat.le_of_ble_eq_true rfl) (Nat.le_of_ble_eq_true rfl) rfl rfl (Nat.le_of_ble_eq_true rfl) dX9_notedSum_1 ?_
  have sc1 : c1 = σ := saX9_needKey hc1
  subst sc1
  refine z_aload_n C dX9_notedSum_4 rfl 0 rfl ?_
  replace hf := zbind hf
  obtain ⟨v2, hv2, hf⟩ := hf
  refine gf_RX9_50 C hv2 dX9_notedSum_5 ?_
  replace hf := zbind hf
  obtain ⟨v3, hv3, hf⟩ := hf
  refine gf_RX9_258 C hv3 dX9_notedSum_8 ?_
  replace hf := zbind hf
  obtain ⟨c4, hc4, hf⟩ := hf
  obtain ⟨kc4, hc4⟩ := zck_ok hc4
  refine z_callVi (As := []) (F0 := 7) (L0 := 101) C (mX0_exists l D Ca B En C.2.2.2.2.2.2.2.1 c1 N v3  _ hc4) hRm kc4 rfl kw_318 kw_10 kw_717 kw_316 kw_317 hyX0_exists (Nat.le_of_ble_eq_true rfl) (Nat.le_of_ble_eq_true rfl) rfl rfl (Nat.le_of_ble_eq_true rfl) dX9_notedSum_11 ?_
  have sc4 : c4.1 = c1 := saX0_exists hc4
  subst sc4
  refine z_if_eq C 32 dX9_notedSum_14 (by decide) (fun q9 => ?_) (fun q9 => ?_)
  · rw [if_pos q9] at hf
    exact zno9 (by simp only [zno, ite_self]) hf
  · rw [if_neg q9] at hf
    exact zno9 (by simp only [zno, ite_self]) hf

set_option maxRecDepth 100000 in
set_option maxHeartbeats 4000000 in
theorem mtX9_shownOf (l : Launch) (D : va_G) (Ca : Nat → ClassId) (B : Nat) (En : State → Prop) (hE : zEk B En) (hT : ∀ U, En U → zThr B U) (hl0 : l.stackTraces = false) (σ : zS) (N : Nat) (x0 : Nat) (x1 : Int32) (h13 : (σ.1 x0).1 = 13) (k : Nat) (hf : tX9_shownOf σ x0 x1 = some k) : zMx l D Ca B En yX9_shownOf cX9_shownOf 6 (Option.some Jvm.ClassFile.FieldType.int) 7 101 [.ref x0, .int x1] σ N k := by
  refine zMet_x (own := RX9) hE (by decide +kernel) rfl (Nat.le_of_ble_eq_true rfl) (fun p e s m args below meth c C hx hRm => ?_)
  unfold tX9_shownOf at hf
  refine z_iload_n C dX9_shownOf_0 rfl 1 rfl ?_
  refine ztc hf (fun t9 => ?_) (fun t9 hg => ?_)
  · exact z_xS (As := [.int x1]) (F0 := 7) (L0 := 101) C (mtX9_needKey l D Ca B En C.2.2.2.2.2.2.2.1 hT hl0 σ N x1 _ t9) hRm kw_958 kw_1 kw_956 kw_957 hyX9_needKey (Nat.le_of_ble_eq_true rfl) (Nat.le_of_ble_eq_true rfl) rfl rfl (Nat.le_of_ble_eq_true rfl) dX9_shownOf_1 hx (Nat.le_of_ble_eq_true rfl) (Nat.le_of_ble_eq_true rfl) rfl rfl
  replace hf := hg
  clear hg
  replace hf := zbind hf
  obtain ⟨c1, hc1, hf⟩ := hf
  refine z_callSv (As := [.int x1]) (F0 := 7) (L0 := 101) C (mX9_needKey l D Ca B En C.2.2.2.2.2.2.2.1 σ N x1 _ hc1) hRm kw_958 kw_1 kw_956 kw_957 hyX9_needKey (Nat.le_of_ble_eq_true rfl) (Nat.le_of_ble_eq_true rfl) rfl rfl (Nat.le_of_ble_eq_true rfl) dX9_shownOf_1 ?_
  have sc1 : c1 = σ := saX9_needKey hc1
  subst sc1
  refine z_bipush C (zi 28) dX9_shownOf_4 (by decide) ?_
  refine z_aload_n C dX9_shownOf_6 rfl 0 rfl ?_
  replace hf := zbind hf
  obtain ⟨v2, hv2, hf⟩ := hf
  refine gf_RX9_35 C hv2 dX9_shownOf_7 ?_
  refine z_iload_n C dX9_shownOf_10 rfl 1 rfl ?_
  replace hf := zbind hf
  obtain ⟨c3, hc3, hf⟩ := hf
  obtain ⟨kc3, hc3⟩ := zck_ok hc3
  refine z_callVi (As := [.int x1]) (F0 := 7) (L0 := 101) C (mX7_sinkOf l D Ca B En C.2.2.2.2.2.2.2.1 c1 N v2 x1 _ hc3) hRm kc3 rfl kw_805 kw_5 kw_1103 kw_803 kw_804 hyX7_sinkOf (Nat.le_of_ble_eq_true rfl) (Nat.le_of_ble_eq_true rfl) rfl rfl (Nat.le_of_ble_eq_true rfl) dX9_shownOf_11 ?_
  refine z_iadd C dX9_shownOf_14 ?_
  refine z_istore_n (lv2 := [(2, .int (((zi 28)) + c3.2)), (0, .ref x0), (1, .int x1)]) C dX9_shownOf_15 rfl (by decide) rfl ?_
  refine z_iconst C (zi 0) dX9_shownOf_16 (by decide) ?_
  refine z_istore_n (lv2 := [(3, .int ((zi 0))), (2, .int (((zi 28)) + c3.2)), (0, .ref x0), (1, .int x1)]) C dX9_shownOf_17 rfl (by decide) rfl ?_
  refine z_aload_n C dX9_shownOf_18 rfl 2 rfl ?_
  replace hf := zbind hf
  obtain ⟨v4, hv4, hf⟩ := hf
  refine gf_RX9_50 C hv4 dX9_shownOf_19 ?_
  replace hf := zbind hf
  obtain ⟨v5, hv5, hf⟩ := hf
  refine gf_RX9_199 C hv5 dX9_shownOf_22 ?_
  refine z_iload_n C dX9_shownOf_25 rfl 1 rfl ?_
  replace hf := zbind hf
  obtain ⟨c6, hc6, hf⟩ := hf
  obtain ⟨kc6, hc6⟩ := zck_ok hc6
  refine z_callVi (As := [.int (((zi 28)) + c3.2)]) (F0 := 7) (L0 := 101) C (mX3_firstOf l D Ca B En C.2.2.2.2.2.2.2.1 c3.1 N v5 (((zi 28)) + c3.2) _ hc6) hRm kc6 rfl kw_338 kw_9 kw_1104 kw_336 kw_337 hyX3_firstOf (Nat.le_of_ble_eq_true rfl) (Nat.le_of_ble_eq_true rfl) rfl rfl (Nat.le_of_ble_eq_true rfl) dX9_shownOf_26 ?_
  refine z_istore (lv2 := [(4, .int c6.2), (3, .int ((zi 0))), (2, .int (((zi 28)) + c3.2)), (0, .ref x0), (1, .int x1)]) C dX9_shownOf_29 (by decide) rfl ?_
  refine z_aload_n C dX9_shownOf_31 rfl 3 rfl ?_
  replace hf := zbind hf
  obtain ⟨v7, hv7, hf⟩ := hf
  refine gf_RX9_50 C hv7 dX9_shownOf_32 ?_
  replace hf := zbind hf
  obtain ⟨v8, hv8, hf⟩ := hf
  refine gf_RX9_199 C hv8 dX9_shownOf_35 ?_
  refine z_iload_n C dX9_shownOf_38 rfl 2 rfl ?_
  replace hf := zbind hf
  obtain ⟨c9, hc9, hf⟩ := hf
  obtain ⟨kc9, hc9⟩ := zck_ok hc9
  refine z_callVi (As := [.int (((zi 28)) + c3.2)]) (F0 := 7) (L0 := 101) C (mX3_sizeOf l D Ca B En C.2.2.2.2.2.2.2.1 c6.1 N v8 (((zi 28)) + c3.2) _ hc9) hRm kc9 rfl kw_342 kw_9 kw_687 kw_340 kw_341 hyX3_sizeOf (Nat.le_of_ble_eq_true rfl) (Nat.le_of_ble_eq_true rfl) rfl rfl (Nat.le_of_ble_eq_true rfl) dX9_shownOf_39 ?_
  refine z_istore (lv2 := [(5, .int c9.2), (4, .int c6.2), (3, .int ((zi 0))), (2, .int (((zi 28)) + c3.2)), (0, .ref x0), (1, .int x1)]) C dX9_shownOf_42 (by decide) rfl ?_
  cases hf

set_option maxRecDepth 100000 in
set_option maxHeartbeats 4000000 in
theorem mtX9_expected (l : Launch) (D : va_G) (Ca : Nat → ClassId) (B : Nat) (En : State → Prop) (hE : zEk B En) (hT : ∀ U, En U → zThr B U) (hl0 : l.stackTraces = false) (σ : zS) (N : Nat) (x0 : Nat) (x1 : Int32) (x2 : Int32) (h13 : (σ.1 x0).1 = 13) (k : Nat) (hf : tX9_expected σ x0 x1 x2 = some k) : zMx l D Ca B En yX9_expected cX9_expected 3 (Option.some Jvm.ClassFile.FieldType.int) 7 101 [.ref x0, .int x1, .int x2] σ N k := by
  refine zMet_x (own := RX9) hE (by decide +kernel) rfl (Nat.le_of_ble_eq_true rfl) (fun p e s m args below meth c C hx hRm => ?_)
  unfold tX9_expected at hf
  refine z_iload_n C dX9_expected_0 rfl 1 rfl ?_
  refine ztc hf (fun t9 => ?_) (fun t9 hg => ?_)
  · exact z_xS (As := [.int x1]) (F0 := 7) (L0 := 101) C (mtX9_needKey l D Ca B En C.2.2.2.2.2.2.2.1 hT hl0 σ N x1 _ t9) hRm kw_958 kw_1 kw_956 kw_957 hyX9_needKey (Nat.le_of_ble_eq_true rfl) (Nat.le_of_ble_eq_true rfl) rfl rfl (Nat.le_of_ble_eq_true rfl) dX9_expected_1 hx (Nat.le_of_ble_eq_true rfl) (Nat.le_of_ble_eq_true rfl) rfl rfl
  replace hf := hg
  clear hg
  replace hf := zbind hf
  obtain ⟨c1, hc1, hf⟩ := hf
  refine z_callSv (As := [.int x1]) (F0 := 7) (L0 := 101) C (mX9_needKey l D Ca B En C.2.2.2.2.2.2.2.1 σ N x1 _ hc1) hRm kw_958 kw_1 kw_956 kw_957 hyX9_needKey (Nat.le_of_ble_eq_true rfl) (Nat.le_of_ble_eq_true rfl) rfl rfl (Nat.le_of_ble_eq_true rfl) dX9_expected_1 ?_
  have sc1 : c1 = σ := saX9_needKey hc1
  subst sc1
  refine z_iload_n C dX9_expected_4 rfl 2 rfl ?_
  refine z_iconst C (zi 1) dX9_expected_5 (by decide) ?_
  refine z_icmp_ge C 17 dX9_expected_6 (by decide) (fun q4 => ?_) (fun q4 => ?_)
  · rw [if_pos q4] at hf
    exact zno9 (by simp only [zno, ite_self]) hf
  · rw [if_neg q4] at hf
    cases hf
    exact z_throw 2 (by omega) C hT hl0 hx hRm (by omega) (by omega) (by decide) (by decide) rfl rfl dX9_expected_9 dX9_expected_12 dX9_expected_13 dX9_expected_16

set_option maxRecDepth 100000 in
set_option maxHeartbeats 4000000 in
theorem mtX9_run (l : Launch) (D : va_G) (Ca : Nat → ClassId) (B : Nat) (En : State → Prop) (hE : zEk B En) (hT : ∀ U, En U → zThr B U) (hl0 : l.stackTraces = false) (σ : zS) (N : Nat) (x0 : Nat) (x1 : Int32) (h13 : (σ.1 x0).1 = 13) (k : Nat) (hf : tX9_run σ x0 x1 = some k) : zMx l D Ca B En yX9_run cX9_run 4 (Option.some Jvm.ClassFile.FieldType.int) 7 170 [.ref x0, .int x1] σ N k := by
  refine zMet_x (own := RX9) hE (by decide +kernel) rfl (Nat.le_of_ble_eq_true rfl) (fun p e s m args below meth c C hx hRm => ?_)
  unfold tX9_run at hf
  refine z_iload_n C dX9_run_0 rfl 1 rfl ?_
  refine ztc hf (fun t9 => ?_) (fun t9 hg => ?_)
  · exact z_xS (As := [.int x1]) (F0 := 7) (L0 := 170) C (mtX9_needTicks l D Ca B En C.2.2.2.2.2.2.2.1 hT hl0 σ N x1 _ t9) hRm kw_1128 kw_1 kw_1126 kw_1127 hyX9_needTicks (Nat.le_of_ble_eq_true rfl) (Nat.le_of_ble_eq_true rfl) rfl rfl (Nat.le_of_ble_eq_true rfl) dX9_run_1 hx (Nat.le_of_ble_eq_true rfl) (Nat.le_of_ble_eq_true rfl) rfl rfl
  replace hf := hg
  clear hg
  replace hf := zbind hf
  obtain ⟨c1, hc1, hf⟩ := hf
  refine z_callSv (As := [.int x1]) (F0 := 7) (L0 := 170) C (mX9_needTicks l D Ca B En C.2.2.2.2.2.2.2.1 σ N x1 _ hc1) hRm kw_1128 kw_1 kw_1126 kw_1127 hyX9_needTicks (Nat.le_of_ble_eq_true rfl) (Nat.le_of_ble_eq_true rfl) rfl rfl (Nat.le_of_ble_eq_true rfl) dX9_run_1 ?_
  have sc1 : c1 = σ := saX9_needTicks hc1
  subst sc1
  refine z_aload_n C dX9_run_4 rfl 0 rfl ?_
  replace hf := zbind hf
  obtain ⟨v2, hv2, hf⟩ := hf
  refine gf_RX9_63 C hv2 dX9_run_5 ?_
  refine z_aload_n C dX9_run_8 rfl 0 rfl ?_
  replace hf := zbind hf
  obtain ⟨v3, hv3, hf⟩ := hf
  refine gf_RX9_50 C hv3 dX9_run_9 ?_
  replace hf := zbind hf
  obtain ⟨c4, hc4, hf⟩ := hf
  obtain ⟨kc4, hc4⟩ := zck_ok hc4
  refine z_callVv (As := [.ref v3]) (F0 := 7) (L0 := 170) C (mX6_remember l D Ca B En C.2.2.2.2.2.2.2.1 c1 N v2 v3 _ hc4) hRm kc4 rfl kw_695 kw_13 kw_692 kw_693 kw_694 hyX6_remember (Nat.le_of_ble_eq_true rfl) (Nat.le_of_ble_eq_true rfl) rfl rfl (Nat.le_of_ble_eq_true rfl) dX9_run_12 ?_
  refine z_aload_n C dX9_run_15 rfl 0 rfl ?_
  replace hf := zbind hf
  obtain ⟨v5, hv5, hf⟩ := hf
  refine gf_RX9_50 C hv5 dX9_run_16 ?_
  replace hf := zbind hf
  obtain ⟨v6, hv6, hf⟩ := hf
  refine gf_RX9_116 C hv6 dX9_run_19 ?_
  refine z_istore_n (lv2 := [(2, .int v6), (0, .ref x0), (1, .int x1)]) C dX9_run_22 rfl (by decide) rfl ?_
  refine z_iconst C (zi 0) dX9_run_23 (by decide) ?_
  refine z_istore_n (lv2 := [(3, .int ((zi 0))), (2, .int v6), (0, .ref x0), (1, .int x1)]) C dX9_run_24 rfl (by decide) rfl ?_
  cases hf

set_option maxRecDepth 100000 in
set_option maxHeartbeats 4000000 in
theorem mtX9_begin (l : Launch) (D : va_G) (Ca : Nat → ClassId) (B : Nat) (En : State → Prop) (hE : zEk B En) (hT : ∀ U, En U → zThr B U) (hl0 : l.stackTraces = false) (σ : zS) (N : Nat) (x0 : Nat) (x1 : Int32) (h13 : (σ.1 x0).1 = 13) (k : Nat) (hf : tX9_begin σ x0 x1 = some k) : zMx l D Ca B En yX9_begin cX9_begin 2 (Option.some Jvm.ClassFile.FieldType.int) 6 170 [.ref x0, .int x1] σ N k := by
  refine zMet_x (own := RX9) hE (by decide +kernel) rfl (Nat.le_of_ble_eq_true rfl) (fun p e s m args below meth c C hx hRm => ?_)
  unfold tX9_begin at hf
  refine z_aload_n C dX9_begin_0 rfl 0 rfl ?_
  replace hf := zbind hf
  obtain ⟨v1, hv1, hf⟩ := hf
  refine gf_RX9_50 C hv1 dX9_begin_1 ?_
  replace hf := zbind hf
  obtain ⟨v2, hv2, hf⟩ := hf
  refine gf_RX9_227 C hv2 dX9_begin_4 ?_
  replace hf := zbind hf
  obtain ⟨c3, hc3, hf⟩ := hf
  obtain ⟨kc3, hc3⟩ := zck_ok hc3
  refine z_callVi (As := []) (F0 := 6) (L0 := 170) C (mX0_exists l D Ca B En C.2.2.2.2.2.2.2.1 σ N v2  _ hc3) hRm kc3 rfl kw_318 kw_10 kw_717 kw_316 kw_317 hyX0_exists (Nat.le_of_ble_eq_true rfl) (Nat.le_of_ble_eq_true rfl) rfl rfl (Nat.le_of_ble_eq_true rfl) dX9_begin_7 ?_
  have sc3 : c3.1 = σ := saX0_exists hc3
  subst sc3
  refine z_if_eq C 21 dX9_begin_10 (by decide) (fun q12 => ?_) (fun q12 => ?_)
  · rw [if_pos q12] at hf
    exact zno9 (by simp only [zno, ite_self]) hf
  · rw [if_neg q12] at hf
    cases hf
    exact z_throw 3 (by omega) C hT hl0 hx hRm (by omega) (by omega) (by decide) (by decide) rfl rfl dX9_begin_13 dX9_begin_16 dX9_begin_17 dX9_begin_20

set_option maxRecDepth 100000 in
set_option maxHeartbeats 4000000 in
theorem mtX9_rescale (l : Launch) (D : va_G) (Ca : Nat → ClassId) (B : Nat) (En : State → Prop) (hE : zEk B En) (hT : ∀ U, En U → zThr B U) (hl0 : l.stackTraces = false) (σ : zS) (N : Nat) (x0 : Nat) (x1 : Int32) (h13 : (σ.1 x0).1 = 13) (k : Nat) (hf : tX9_rescale σ x0 x1 = some k) : zMx l D Ca B En yX9_rescale cX9_rescale 3 (Option.some Jvm.ClassFile.FieldType.int) 6 170 [.ref x0, .int x1] σ N k := by
  refine zMet_x (own := RX9) hE (by decide +kernel) rfl (Nat.le_of_ble_eq_true rfl) (fun p e s m args below meth c C hx hRm => ?_)
  unfold tX9_rescale at hf
  refine z_iload_n C dX9_rescale_0 rfl 1 rfl ?_
  refine z_iconst C (zi 1) dX9_rescale_1 (by decide) ?_
  refine z_icmp_lt C 10 dX9_rescale_2 (by decide) (fun q10 => ?_) (fun q10 => ?_)
  · rw [if_pos q10] at hf
    cases hf
    exact z_throw 2 (by omega) C hT hl0 hx hRm (by omega) (by omega) (by decide) (by decide) rfl rfl dX9_rescale_10 dX9_rescale_13 dX9_rescale_14 dX9_rescale_17
  · rw [if_neg q10] at hf
    refine z_iload_n C dX9_rescale_5 rfl 1 rfl ?_
    refine z_iconst C (zi 4) dX9_rescale_6 (by decide) ?_
    refine z_icmp_le C 18 dX9_rescale_7 (by decide) (fun q9 => ?_) (fun q9 => ?_)
    · rw [if_pos q9] at hf
      exact zno9 (by simp only [zno, ite_self]) hf
    · rw [if_neg q9] at hf
      cases hf
      exact z_throw 2 (by omega) C hT hl0 hx hRm (by omega) (by omega) (by decide) (by decide) rfl rfl dX9_rescale_10 dX9_rescale_13 dX9_rescale_14 dX9_rescale_17

set_option maxRecDepth 100000 in
set_option maxHeartbeats 4000000 in
theorem mtX9_setRoom (l : Launch) (D : va_G) (Ca : Nat → ClassId) (B : Nat) (En : State → Prop) (hE : zEk B En) (hT : ∀ U, En U → zThr B U) (hl0 : l.stackTraces = false) (σ : zS) (N : Nat) (x0 : Nat) (x1 : Int32) (h13 : (σ.1 x0).1 = 13) (k : Nat) (hf : tX9_setRoom σ x0 x1 = some k) : zMx l D Ca B En yX9_setRoom cX9_setRoom 3 (Option.some Jvm.ClassFile.FieldType.int) 6 170 [.ref x0, .int x1] σ N k := by
  refine zMet_x (own := RX9) hE (by decide +kernel) rfl (Nat.le_of_ble_eq_true rfl) (fun p e s m args below meth c C hx hRm => ?_)
  unfold tX9_setRoom at hf
  refine z_iload_n C dX9_setRoom_0 rfl 1 rfl ?_
  refine z_iconst C (zi 1) dX9_setRoom_1 (by decide) ?_
  refine z_icmp_lt C 11 dX9_setRoom_2 (by decide) (fun q8 => ?_) (fun q8 => ?_)
  · rw [if_pos q8] at hf
    cases hf
    exact z_throw 2 (by omega) C hT hl0 hx hRm (by omega) (by omega) (by decide) (by decide) rfl rfl dX9_setRoom_11 dX9_setRoom_14 dX9_setRoom_15 dX9_setRoom_18
  · rw [if_neg q8] at hf
    refine z_iload_n C dX9_setRoom_5 rfl 1 rfl ?_
    refine z_bipush C (zi 9) dX9_setRoom_6 (by decide) ?_
    refine z_icmp_le C 19 dX9_setRoom_8 (by decide) (fun q7 => ?_) (fun q7 => ?_)
    · rw [if_pos q7] at hf
      exact zno9 (by simp only [zno, ite_self]) hf
    · rw [if_neg q7] at hf
      cases hf
      exact z_throw 2 (by omega) C hT hl0 hx hRm (by omega) (by omega) (by decide) (by decide) rfl rfl dX9_setRoom_11 dX9_setRoom_14 dX9_setRoom_15 dX9_setRoom_18

set_option maxRecDepth 100000 in
set_option maxHeartbeats 4000000 in
theorem mtX9_setLag (l : Launch) (D : va_G) (Ca : Nat → ClassId) (B : Nat) (En : State → Prop) (hE : zEk B En) (hT : ∀ U, En U → zThr B U) (hl0 : l.stackTraces = false) (σ : zS) (N : Nat) (x0 : Nat) (x1 : Int32) (x2 : Int32) (h13 : (σ.1 x0).1 = 13) (k : Nat) (hf : tX9_setLag σ x0 x1 x2 = some k) : zMx l D Ca B En yX9_setLag cX9_setLag 4 (Option.some Jvm.ClassFile.FieldType.int) 7 170 [.ref x0, .int x1, .int x2] σ N k := by
  refine zMet_x (own := RX9) hE (by decide +kernel) rfl (Nat.le_of_ble_eq_true rfl) (fun p e s m args below meth c C hx hRm => ?_)
  unfold tX9_setLag at hf
  refine z_aload_n C dX9_setLag_0 rfl 0 rfl ?_
  refine z_iload_n C dX9_setLag_1 rfl 1 rfl ?_
  refine ztc hf (fun t9 => ?_) (fun t9 hg => ?_)
  · exact z_xV (As := [.int x1]) (F0 := 7) (L0 := 170) C (mtX9_needSource l D Ca B En C.2.2.2.2.2.2.2.1 hT hl0 σ N x0 x1 _ t9) hRm h13 rfl kw_873 kw_1 kw_870 kw_872 kp_31 hyX9_needSource (Nat.le_of_ble_eq_true rfl) (Nat.le_of_ble_eq_true rfl) rfl rfl (Nat.le_of_ble_eq_true rfl) dX9_setLag_2 hx (Nat.le_of_ble_eq_true rfl) (Nat.le_of_ble_eq_true rfl) rfl rfl
  replace hf := hg
  clear hg
  replace hf := zbind hf
  obtain ⟨c1, hc1, hf⟩ := hf
  obtain ⟨kc1, hc1⟩ := zck_ok hc1
  refine z_callVv (As := [.int x1]) (F0 := 7) (L0 := 170) C (mX9_needSource l D Ca B En C.2.2.2.2.2.2.2.1 σ N x0 x1 _ hc1) hRm kc1 rfl kw_873 kw_1 kw_870 kw_872 kp_31 hyX9_needSource (Nat.le_of_ble_eq_true rfl) (Nat.le_of_ble_eq_true rfl) rfl rfl (Nat.le_of_ble_eq_true rfl) dX9_setLag_2 ?_
  have sc1 : c1 = σ := saX9_needSource hc1
  subst sc1
  refine z_iload_n C dX9_setLag_5 rfl 2 rfl ?_
  refine z_if_lt C 15 dX9_setLag_6 (by decide) (fun q11 => ?_) (fun q11 => ?_)
  · rw [if_pos q11] at hf
    cases hf
    exact z_throw 2 (by omega) C hT hl0 hx hRm (by omega) (by omega) (by decide) (by decide) rfl rfl dX9_setLag_15 dX9_setLag_18 dX9_setLag_19 dX9_setLag_22
  · rw [if_neg q11] at hf
    refine z_iload_n C dX9_setLag_9 rfl 2 rfl ?_
    refine z_bipush C (zi 9) dX9_setLag_10 (by decide) ?_
    refine z_icmp_le C 23 dX9_setLag_12 (by decide) (fun q10 => ?_) (fun q10 => ?_)
    · rw [if_pos q10] at hf
      exact zno9 (by simp only [zno, ite_self]) hf
    · rw [if_neg q10] at hf
      cases hf
      exact z_throw 2 (by omega) C hT hl0 hx hRm (by omega) (by omega) (by decide) (by decide) rfl rfl dX9_setLag_15 dX9_setLag_18 dX9_setLag_19 dX9_setLag_22

set_option maxRecDepth 100000 in
set_option maxHeartbeats 4000000 in
theorem mtX9_setEvery (l : Launch) (D : va_G) (Ca : Nat → ClassId) (B : Nat) (En : State → Prop) (hE : zEk B En) (hT : ∀ U, En U → zThr B U) (hl0 : l.stackTraces = false) (σ : zS) (N : Nat) (x0 : Nat) (x1 : Int32) (x2 : Int32) (h13 : (σ.1 x0).1 = 13) (k : Nat) (hf : tX9_setEvery σ x0 x1 x2 = some k) : zMx l D Ca B En yX9_setEvery cX9_setEvery 4 (Option.some Jvm.ClassFile.FieldType.int) 6 170 [.ref x0, .int x1, .int x2] σ N k := by
  refine zMet_x (own := RX9) hE (by decide +kernel) rfl (Nat.le_of_ble_eq_true rfl) (fun p e s m args below meth c C hx hRm => ?_)
  unfold tX9_setEvery at hf
  refine z_iload_n C dX9_setEvery_0 rfl 1 rfl ?_
  refine z_if_lt C 10 dX9_setEvery_1 (by decide) (fun q8 => ?_) (fun q8 => ?_)
  · rw [if_pos q8] at hf
    cases hf
    exact z_throw 2 (by omega) C hT hl0 hx hRm (by omega) (by omega) (by decide) (by decide) rfl rfl dX9_setEvery_10 dX9_setEvery_13 dX9_setEvery_14 dX9_setEvery_17
  · rw [if_neg q8] at hf
    refine z_iload_n C dX9_setEvery_4 rfl 1 rfl ?_
    refine z_bipush C (zi 99) dX9_setEvery_5 (by decide) ?_
    refine z_icmp_le C 18 dX9_setEvery_7 (by decide) (fun q7 => ?_) (fun q7 => ?_)
    · rw [if_pos q7] at hf
      exact zno9 (by simp only [zno, ite_self]) hf
    · rw [if_neg q7] at hf
      cases hf
      exact z_throw 2 (by omega) C hT hl0 hx hRm (by omega) (by omega) (by decide) (by decide) rfl rfl dX9_setEvery_10 dX9_setEvery_13 dX9_setEvery_14 dX9_setEvery_17

set_option maxRecDepth 100000 in
set_option maxHeartbeats 4000000 in
theorem mtX9_undo (l : Launch) (D : va_G) (Ca : Nat → ClassId) (B : Nat) (En : State → Prop) (hE : zEk B En) (hT : ∀ U, En U → zThr B U) (hl0 : l.stackTraces = false) (σ : zS) (N : Nat) (x0 : Nat) (h13 : (σ.1 x0).1 = 13) (k : Nat) (hf : tX9_undo σ x0 = some k) : zMx l D Ca B En yX9_undo cX9_undo 1 (Option.some Jvm.ClassFile.FieldType.int) 6 170 [.ref x0] σ N k := by
  refine zMet_x (own := RX9) hE (by decide +kernel) rfl (Nat.le_of_ble_eq_true rfl) (fun p e s m args below meth c C hx hRm => ?_)
  unfold tX9_undo at hf
  refine z_aload_n C dX9_undo_0 rfl 0 rfl ?_
  replace hf := zbind hf
  obtain ⟨v1, hv1, hf⟩ := hf
  refine gf_RX9_63 C hv1 dX9_undo_1 ?_
  replace hf := zbind hf
  obtain ⟨v2, hv2, hf⟩ := hf
  refine gf_RX9_125 C hv2 dX9_undo_4 ?_
  refine z_if_ne C 18 dX9_undo_7 (by decide) (fun q8 => ?_) (fun q8 => ?_)
  · rw [if_neg q8] at hf
    exact zno9 (by simp only [zno, ite_self]) hf
  · rw [if_pos q8] at hf
    cases hf
    exact z_throw 3 (by omega) C hT hl0 hx hRm (by omega) (by omega) (by decide) (by decide) rfl rfl dX9_undo_10 dX9_undo_13 dX9_undo_14 dX9_undo_17

set_option maxRecDepth 100000 in
set_option maxHeartbeats 4000000 in
theorem mtX9_completesIn (l : Launch) (D : va_G) (Ca : Nat → ClassId) (B : Nat) (En : State → Prop) (hE : zEk B En) (hT : ∀ U, En U → zThr B U) (hl0 : l.stackTraces = false) (σ : zS) (N : Nat) (x0 : Nat) (x1 : Int32) (h13 : (σ.1 x0).1 = 13) (k : Nat) (hf : tX9_completesIn σ x0 x1 = some k) : zMx l D Ca B En yX9_completesIn cX9_completesIn 2 (Option.some Jvm.ClassFile.FieldType.int) 7 160 [.ref x0, .int x1] σ N k := by
  refine zMet_x (own := RX9) hE (by decide +kernel) rfl (Nat.le_of_ble_eq_true rfl) (fun p e s m args below meth c C hx hRm => ?_)
  unfold tX9_completesIn at hf
  refine z_iload_n C dX9_completesIn_0 rfl 1 rfl ?_
  refine ztc hf (fun t9 => ?_) (fun t9 hg => ?_)
  · exact z_xS (As := [.int x1]) (F0 := 7) (L0 := 160) C (mtX9_needTicks l D Ca B En C.2.2.2.2.2.2.2.1 hT hl0 σ N x1 _ t9) hRm kw_1128 kw_1 kw_1126 kw_1127 hyX9_needTicks (Nat.le_of_ble_eq_true rfl) (Nat.le_of_ble_eq_true rfl) rfl rfl (Nat.le_of_ble_eq_true rfl) dX9_completesIn_1 hx (Nat.le_of_ble_eq_true rfl) (Nat.le_of_ble_eq_true rfl) rfl rfl
  replace hf := hg
  clear hg
  replace hf := zbind hf
  obtain ⟨c1, hc1, hf⟩ := hf
  refine z_callSv (As := [.int x1]) (F0 := 7) (L0 := 160) C (mX9_needTicks l D Ca B En C.2.2.2.2.2.2.2.1 σ N x1 _ hc1) hRm kw_1128 kw_1 kw_1126 kw_1127 hyX9_needTicks (Nat.le_of_ble_eq_true rfl) (Nat.le_of_ble_eq_true rfl) rfl rfl (Nat.le_of_ble_eq_true rfl) dX9_completesIn_1 ?_
  have sc1 : c1 = σ := saX9_needTicks hc1
  subst sc1
  refine z_aload_n C dX9_completesIn_4 rfl 0 rfl ?_
  replace hf := zbind hf
  obtain ⟨v2, hv2, hf⟩ := hf
  refine gf_RX9_50 C hv2 dX9_completesIn_5 ?_
  replace hf := zbind hf
  obtain ⟨v3, hv3, hf⟩ := hf
  refine gf_RX9_227 C hv3 dX9_completesIn_8 ?_
  replace hf := zbind hf
  obtain ⟨c4, hc4, hf⟩ := hf
  obtain ⟨kc4, hc4⟩ := zck_ok hc4
  refine z_callVi (As := []) (F0 := 7) (L0 := 160) C (mX0_exists l D Ca B En C.2.2.2.2.2.2.2.1 c1 N v3  _ hc4) hRm kc4 rfl kw_318 kw_10 kw_717 kw_316 kw_317 hyX0_exists (Nat.le_of_ble_eq_true rfl) (Nat.le_of_ble_eq_true rfl) rfl rfl (Nat.le_of_ble_eq_true rfl) dX9_completesIn_11 ?_
  have sc4 : c4.1 = c1 := saX0_exists hc4
  subst sc4
  refine z_if_ne C 19 dX9_completesIn_14 (by decide) (fun q10 => ?_) (fun q10 => ?_)
  · rw [if_neg q10] at hf
    exact zno9 (by simp only [zno, ite_self]) hf
  · rw [if_pos q10] at hf
    exact zno9 (by simp only [zno, ite_self]) hf

set_option maxRecDepth 100000 in
set_option maxHeartbeats 4000000 in
theorem mtX9_bestInstances (l : Launch) (D : va_G) (Ca : Nat → ClassId) (B : Nat) (En : State → Prop) (hE : zEk B En) (hT : ∀ U, En U → zThr B U) (hl0 : l.stackTraces = false) (σ : zS) (N : Nat) (x0 : Nat) (x1 : Int32) (h13 : (σ.1 x0).1 = 13) (k : Nat) (hf : tX9_bestInstances σ x0 x1 = some k) : zMx l D Ca B En yX9_bestInstances cX9_bestInstances 6 (Option.some Jvm.ClassFile.FieldType.int) 7 101 [.ref x0, .int x1] σ N k := by
  refine zMet_x (own := RX9) hE (by decide +kernel) rfl (Nat.le_of_ble_eq_true rfl) (fun p e s m args below meth c C hx hRm => ?_)
  unfold tX9_bestInstances at hf
  refine z_iload_n C dX9_bestInstances_0 rfl 1 rfl ?_
  refine ztc hf (fun t9 => ?_) (fun t9 hg => ?_)
  · exact z_xS (As := [.int x1]) (F0 := 7) (L0 := 101) C (mtX9_needTicks l D Ca B En C.2.2.2.2.2.2.2.1 hT hl0 σ N x1 _ t9) hRm kw_1128 kw_1 kw_1126 kw_1127 hyX9_needTicks (Nat.le_of_ble_eq_true rfl) (Nat.le_of_ble_eq_true rfl) rfl rfl (Nat.le_of_ble_eq_true rfl) dX9_bestInstances_1 hx (Nat.le_of_ble_eq_true rfl) (Nat.le_of_ble_eq_true rfl) rfl rfl
  replace hf := hg
  clear hg
  replace hf := zbind hf
  obtain ⟨c1, hc1, hf⟩ := hf
  refine z_callSv (As := [.int x1]) (F0 := 7) (L0 := 101) C (mX9_needTicks l D Ca B En C.2.2.2.2.2.2.2.1 σ N x1 _ hc1) hRm kw_1128 kw_1 kw_1126 kw_1127 hyX9_needTicks (Nat.le_of_ble_eq_true rfl) (Nat.le_of_ble_eq_true rfl) rfl rfl (Nat.le_of_ble_eq_true rfl) dX9_bestInstances_1 ?_
  have sc1 : c1 = σ := saX9_needTicks hc1
  subst sc1
  refine z_iconst C (zi 1) dX9_bestInstances_4 (by decide) ?_
  refine z_istore_n (lv2 := [(2, .int ((zi 1))), (0, .ref x0), (1, .int x1)]) C dX9_bestInstances_5 rfl (by decide) rfl ?_
  refine z_iconst C (zi (-1)) dX9_bestInstances_6 (by decide) ?_
  refine z_istore_n (lv2 := [(3, .int ((zi (-1)))), (2, .int ((zi 1))), (0, .ref x0), (1, .int x1)]) C dX9_bestInstances_7 rfl (by decide) rfl ?_
  refine z_iconst C (zi 1) dX9_bestInstances_8 (by decide) ?_
  refine z_istore (lv2 := [(4, .int ((zi 1))), (3, .int ((zi (-1)))), (2, .int ((zi 1))), (0, .ref x0), (1, .int x1)]) C dX9_bestInstances_9 (by decide) rfl ?_
  cases hf

set_option maxRecDepth 100000 in
set_option maxHeartbeats 4000000 in
theorem mtX9_printSink (l : Launch) (D : va_G) (Ca : Nat → ClassId) (B : Nat) (En : State → Prop) (hE : zEk B En) (hT : ∀ U, En U → zThr B U) (hl0 : l.stackTraces = false) (σ : zS) (N : Nat) (x0 : Nat) (x1 : Int32) (h13 : (σ.1 x0).1 = 13) (k : Nat) (hf : tX9_printSink σ x0 x1 = some k) : zMx l D Ca B En yX9_printSink cX9_printSink 4 (Option.some Jvm.ClassFile.FieldType.int) 7 102 [.ref x0, .int x1] σ N k := by
  refine zMet_x (own := RX9) hE (by decide +kernel) rfl (Nat.le_of_ble_eq_true rfl) (fun p e s m args below meth c C hx hRm => ?_)
  unfold tX9_printSink at hf
  refine z_aload_n C dX9_printSink_0 rfl 0 rfl ?_
  refine z_iload_n C dX9_printSink_1 rfl 1 rfl ?_
  refine ztc hf (fun t9 => ?_) (fun t9 hg => ?_)
  · exact z_xV (As := [.int x1]) (F0 := 7) (L0 := 102) C (mtX9_needSink l D Ca B En C.2.2.2.2.2.2.2.1 hT hl0 σ N x0 x1 _ t9) hRm h13 rfl kw_1014 kw_1 kw_1011 kw_1013 kp_34 hyX9_needSink (Nat.le_of_ble_eq_true rfl) (Nat.le_of_ble_eq_true rfl) rfl rfl (Nat.le_of_ble_eq_true rfl) dX9_printSink_2 hx (Nat.le_of_ble_eq_true rfl) (Nat.le_of_ble_eq_true rfl) rfl rfl
  replace hf := hg
  clear hg
  replace hf := zbind hf
  obtain ⟨c1, hc1, hf⟩ := hf
  obtain ⟨kc1, hc1⟩ := zck_ok hc1
  refine z_callVv (As := [.int x1]) (F0 := 7) (L0 := 102) C (mX9_needSink l D Ca B En C.2.2.2.2.2.2.2.1 σ N x0 x1 _ hc1) hRm kc1 rfl kw_1014 kw_1 kw_1011 kw_1013 kp_34 hyX9_needSink (Nat.le_of_ble_eq_true rfl) (Nat.le_of_ble_eq_true rfl) rfl rfl (Nat.le_of_ble_eq_true rfl) dX9_printSink_2 ?_
  have sc1 : c1 = σ := saX9_needSink hc1
  subst sc1
  refine z_aload_n C dX9_printSink_5 rfl 0 rfl ?_
  replace hf := zbind hf
  obtain ⟨v2, hv2, hf⟩ := hf
  refine gf_RX9_28 C hv2 dX9_printSink_6 ?_
  refine z_iconst C (zi 0) dX9_printSink_9 (by decide) ?_
  cases hf

set_option maxRecDepth 100000 in
set_option maxHeartbeats 4000000 in
theorem mtX9_restoreState (l : Launch) (D : va_G) (Ca : Nat → ClassId) (B : Nat) (En : State → Prop) (hE : zEk B En) (hT : ∀ U, En U → zThr B U) (hl0 : l.stackTraces = false) (σ : zS) (N : Nat) (x0 : Nat) (h13 : (σ.1 x0).1 = 13) (k : Nat) (hf : tX9_restoreState σ x0 = some k) : zMx l D Ca B En yX9_restoreState cX9_restoreState 1 (Option.some Jvm.ClassFile.FieldType.int) 6 148 [.ref x0] σ N k := by
  refine zMet_x (own := RX9) hE (by decide +kernel) rfl (Nat.le_of_ble_eq_true rfl) (fun p e s m args below meth c C hx hRm => ?_)
  unfold tX9_restoreState at hf
  refine z_aload_n C dX9_restoreState_0 rfl 0 rfl ?_
  replace hf := zbind hf
  obtain ⟨v1, hv1, hf⟩ := hf
  refine gf_RX9_85 C hv1 dX9_restoreState_1 ?_
  refine z_if_ne C 15 dX9_restoreState_4 (by decide) (fun q9 => ?_) (fun q9 => ?_)
  · rw [if_neg q9] at hf
    exact zno9 (by simp only [zno, ite_self]) hf
  · rw [if_pos q9] at hf
    cases hf
    exact z_throw 3 (by omega) C hT hl0 hx hRm (by omega) (by omega) (by decide) (by decide) rfl rfl dX9_restoreState_7 dX9_restoreState_10 dX9_restoreState_11 dX9_restoreState_14

end ZU3
