/-! The law's start. -/
theorem kw_27 : (Jvm.Cond.classLink "BarrierFlowLaw" (8 : Nat) "BarrierFlow") ∈ zTb := zTb_of 27 (by decide +kernel) (by decide +kernel)
theorem kw_28 : (Jvm.Cond.instantiable "BarrierFlow" (10 : Nat)) ∈ zTb := zTb_of 28 (by decide +kernel) (by decide +kernel)
theorem kw_29 : (Jvm.Cond.methodLink "BarrierFlowLaw" (102 : Nat) ({ cls := "BarrierFlow", name := "<init>", desc := "()V" } : Jvm.MethodName)) ∈ zTb := zTb_of 29 (by decide +kernel) (by decide +kernel)
theorem kw_30 : (Jvm.Cond.instanceMethod ({ cls := "BarrierFlow", name := "<init>", desc := "()V" } : Jvm.MethodName)) ∈ zTb := zTb_of 30 (by decide +kernel) (by decide +kernel)
theorem kw_31 : (Jvm.Cond.code ({ cls := "BarrierFlow", name := "<init>", desc := "()V" } : Jvm.MethodName) prog_1_method_1_code (1 : Nat) (Option.none : Option Jvm.ClassFile.FieldType)) ∈ zTb := zTb_of 31 (by decide +kernel) (by decide +kernel)
theorem kw_1245 : (Jvm.Cond.classLink "BarrierFlowLaw" (103 : Nat) "BarrierFlowModel") ∈ zTb := zTb_of 1245 (by decide +kernel) (by decide +kernel)
theorem kw_1246 : (Jvm.Cond.instantiable "BarrierFlowModel" (32 : Nat)) ∈ zTb := zTb_of 1246 (by decide +kernel) (by decide +kernel)
theorem kw_1247 : (Jvm.Cond.methodLink "BarrierFlowLaw" (105 : Nat) ({ cls := "BarrierFlowModel", name := "<init>", desc := "()V" } : Jvm.MethodName)) ∈ zTb := zTb_of 1247 (by decide +kernel) (by decide +kernel)
theorem kw_1248 : (Jvm.Cond.instanceMethod ({ cls := "BarrierFlowModel", name := "<init>", desc := "()V" } : Jvm.MethodName)) ∈ zTb := zTb_of 1248 (by decide +kernel) (by decide +kernel)
theorem kw_1249 : (Jvm.Cond.code ({ cls := "BarrierFlowModel", name := "<init>", desc := "()V" } : Jvm.MethodName) prog_12_method_1_code (1 : Nat) (Option.none : Option Jvm.ClassFile.FieldType)) ∈ zTb := zTb_of 1249 (by decide +kernel) (by decide +kernel)
theorem dL_law_0 : decode cL_law 0 = .ok (.new 8, 3) := by decide +kernel
theorem dL_law_3 : decode cL_law 3 = .ok (.dup, 1) := by decide +kernel
theorem dL_law_4 : decode cL_law 4 = .ok (.invokespecial 102, 3) := by decide +kernel
theorem dL_law_7 : decode cL_law 7 = .ok (.astore_n 1, 1) := by decide +kernel
theorem dL_law_8 : decode cL_law 8 = .ok (.new 103, 3) := by decide +kernel
theorem dL_law_11 : decode cL_law 11 = .ok (.dup, 1) := by decide +kernel
theorem dL_law_12 : decode cL_law 12 = .ok (.invokespecial 105, 3) := by decide +kernel
theorem dL_law_15 : decode cL_law 15 = .ok (.astore_n 2, 1) := by decide +kernel
theorem dL_law_16 : decode cL_law 16 = .ok (.iconst 1, 1) := by decide +kernel
theorem dL_law_17 : decode cL_law 17 = .ok (.newarray .long, 2) := by decide +kernel
theorem dL_law_19 : decode cL_law 19 = .ok (.astore_n 3, 1) := by decide +kernel
theorem dL_law_20 : decode cL_law 20 = .ok (.iconst 0, 1) := by decide +kernel
theorem dL_law_21 : decode cL_law 21 = .ok (.istore 4, 2) := by decide +kernel
theorem zSK_far {σ τ : zS} {lo hi l2 h2 : Nat} (h : zgr lo hi σ τ) (hd : h2 ≤ lo ∨ hi ≤ l2) : zeq σ τ l2 h2 := zgr_eq h hd
set_option maxRecDepth 100000 in
set_option maxHeartbeats 4000000 in
theorem whole_start {p : Program} {e : Env} {s : State} {m : MethodId} {below : List Frame} {meth : Method} {c : Code} (l : Launch) (hflags : l.flags = flags0) {b L : Nat} {xs : Nat → Int32} (hL : L ≤ 3072) (C0 : lw_At p s m meth c b L xs) : W p l e room_1 s m #[Value.ref b] below meth c s.heap [] 0 0 (lw_Z below #[Value.ref b] s) (entryFrame m ([Value.ref b] : List Value).toArray 9) := by
  obtain ⟨hx, hb, hr, hml, hown, hts, hX, hbl, hlocks, hgv⟩ := id C0
  have hl0 : l.stackTraces = false := by
    unfold Launch.stackTraces
    rw [hflags]
    decide +kernel
  obtain ⟨ev, hE⟩ := zEn_start hts hgv
  obtain ⟨D, Ca, hV⟩ := zV_start hts
  have C : zC p s m #[Value.ref b] meth c cL_law RL 9 D Ca s.heap.size (zEn ev s.heap.size) := ⟨hx, hb, hml, fun w hw => hts w (List.mem_filter.mp hw).1, hown, hV, hE, zEn_k ev _, Nat.le_refl _, hlocks, zNest_start hts⟩
  have hLS : zLS s s.heap.size b L xs := ⟨hX, hbl, Nat.not_le.mpr hbl, hL⟩
  have hZ : ∀ U : State, zEn ev s.heap.size U → zEnv ev s.heap.size U := fun U h => h.1
  have hAO : ∀ U : State, zEn ev s.heap.size U → va_AO "BarrierFlow$Flow" U := fun U h => h.2.2.2
  have hl := lv_entry ([.ref b]) (n := 9) (Nat.le_of_ble_eq_true rfl)
  rw [lg_entry_eq]
  obtain ⟨σ0, hσ0⟩ : ∃ σ0 : zS, σ0 = (fun _ => (0, 0), fun _ _ => 0, fun _ _ => none, fun _ _ => 0) := ⟨_, rfl⟩
  have h0 : zH D Ca s.heap.size σ0 s.heap.size s.heap := ⟨rfl, Nat.le_refl _, fun a e9 he => by
    have : zent Ca σ0 a = none := by
      rw [hσ0]
      rfl
    rw [this] at he
    cases he⟩
  have key : zW p l e room_1 s m #[Value.ref b] below meth c 0 0 (lw_Z below #[Value.ref b] s) D Ca s.heap.size 9 σ0 s.heap.size 0 [(0, .ref b)] [] := by
    clear hl h0 hσ0
    -- the class's object
    obtain ⟨τ1, e1, g1, hCI⟩ := n_X9 (σ := znew σ0 s.heap.size (13, 0)) (X := s.heap.size) (SK_new0 [7])
    refine z_newO (Cn := RX9) (T := TX9) (Nf := 10) (k := 8) C rfl rfl zin_8 tyX9 tyX9_ok kw_27 kw_28 kw_1 hdef_8 (Nat.le_of_ble_eq_true rfl) (Nat.le_of_ble_eq_true rfl) dL_law_0 ?_
    refine z_dup C dL_law_3 rfl ?_
    refine z_callN (As := []) C (nX9_init l D Ca s.heap.size (zEn ev s.heap.size) C.2.2.2.2.2.2.2.1 ev hZ hAO (znew σ0 s.heap.size (13, 0)) (s.heap.size + 1) s.heap.size τ1 e1) kw_31 kw_1 kw_29 rfl kw_30 hyX9_init (Nat.le_of_ble_eq_true rfl) (Nat.le_of_ble_eq_true rfl) rfl rfl (Nat.le_of_ble_eq_true rfl) dL_law_4 (Nat.le_of_ble_eq_true rfl) (Nat.le_of_ble_eq_true rfl) ?_
    refine z_astore_n (lv2 := [(1, .ref s.heap.size), (0, .ref b)]) C dL_law_7 rfl (by decide) rfl ?_
    rw [show s.heap.size + 1 + 306 = s.heap.size + 307 from rfl]
    -- the reference
    obtain ⟨τ2, e2, g2, hRI⟩ := n_X10 (σ := znew τ1 (s.heap.size + 307) (14, 0)) (m := s.heap.size + 307) (SK_new0 [0, 15, 22, 31])
    refine z_newO (Cn := RX10) (T := TX10) (Nf := 32) (k := 9) C rfl rfl zin_9 tyX10 tyX10_ok kw_1245 kw_1246 kw_14 hdef_9 (Nat.le_of_ble_eq_true rfl) (Nat.le_of_ble_eq_true rfl) dL_law_8 ?_
    refine z_dup C dL_law_11 rfl ?_
    refine z_callN (As := []) C (nX10_init l D Ca s.heap.size (zEn ev s.heap.size) C.2.2.2.2.2.2.2.1 ev hZ (znew τ1 (s.heap.size + 307) (14, 0)) (s.heap.size + 307 + 1) (s.heap.size + 307) τ2 e2) kw_1249 kw_14 kw_1247 rfl kw_1248 hyX10_init (Nat.le_of_ble_eq_true rfl) (Nat.le_of_ble_eq_true rfl) rfl rfl (Nat.le_of_ble_eq_true rfl) dL_law_12 (Nat.le_of_ble_eq_true rfl) (Nat.le_of_ble_eq_true rfl) ?_
    refine z_astore_n (lv2 := [(2, .ref (s.heap.size + 307)), (1, .ref s.heap.size), (0, .ref b)]) C dL_law_15 rfl (by decide) rfl ?_
    rw [show s.heap.size + 307 + 1 + 14 = s.heap.size + 322 from rfl]
    -- the row for answers
    refine z_iconst C (zi 1) dL_law_16 (by decide) ?_
    refine z_newJ (n9 := 1) C kw_1361 (by decide +kernel) (by decide +kernel) (Nat.le_of_ble_eq_true rfl) (Nat.le_of_ble_eq_true rfl) (Nat.le_of_ble_eq_true rfl) dL_law_17 ?_
    refine z_astore_n (lv2 := [(3, .ref (s.heap.size + 322)), (2, .ref (s.heap.size + 307)), (1, .ref s.heap.size), (0, .ref b)]) C dL_law_19 rfl (by decide) rfl ?_
    refine z_iconst C (zi 0) dL_law_20 (by decide) ?_
    refine z_istore (lv2 := [(4, .int (zi 0)), (3, .ref (s.heap.size + 322)), (2, .ref (s.heap.size + 307)), (1, .ref s.heap.size), (0, .ref b)]) C dL_law_21 (by decide) rfl ?_
    refine z_sub (lv2 := lawLv b s.heap.size 0) [4, 3, 2, 1, 0] rfl ?_
    refine law_loop hl0 ev C hr hLS 513 0 _ _ _ _ 0 (by omega) (by omega) (Nat.le_of_ble_eq_true rfl) (Nat.le_of_ble_eq_true rfl) (Int.le_refl 0) (by decide) ?_
    have c1 : CI τ2 s.heap.size (pP Dp) Dp.2.2.2.2.1 (pM Dp) [] none [] 0 (-1) [] := CI_eq (CI_eq hCI (zgr_eq zgr_new (Or.inl (Nat.le_refl _)))) (zgr_eq g2 (Or.inl (Nat.le_refl _)))
    exact ⟨pP Dp, Dp.2.2.2.2.1, pM Dp, [], none, [], 0, -1, [], CI_eq c1 (zgr_eq zgr_new (by omega)), RI_eq hRI (zgr_eq zgr_new (by omega)), QI_start Dp_ok Dp_P (Int.le_refl 0), TB_nil, znew_k⟩
  exact key s.heap [] _ h0 va_S.rf hl
