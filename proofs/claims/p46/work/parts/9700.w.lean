/-! The law's start. -/
theorem kw_31 : (Jvm.Cond.classLink "BarrierFlowLaw" (26 : Nat) "BarrierFlow") ∈ zTb := zTb_of 31 (by decide +kernel) (by decide +kernel)
theorem kw_32 : (Jvm.Cond.instantiable "BarrierFlow" (10 : Nat)) ∈ zTb := zTb_of 32 (by decide +kernel) (by decide +kernel)
theorem kw_33 : (Jvm.Cond.methodLink "BarrierFlowLaw" (156 : Nat) ({ cls := "BarrierFlow", name := "<init>", desc := "()V" } : Jvm.MethodName)) ∈ zTb := zTb_of 33 (by decide +kernel) (by decide +kernel)
theorem kw_34 : (Jvm.Cond.instanceMethod ({ cls := "BarrierFlow", name := "<init>", desc := "()V" } : Jvm.MethodName)) ∈ zTb := zTb_of 34 (by decide +kernel) (by decide +kernel)
theorem kw_35 : (Jvm.Cond.code ({ cls := "BarrierFlow", name := "<init>", desc := "()V" } : Jvm.MethodName) prog_1_method_1_code (1 : Nat) (Option.none : Option Jvm.ClassFile.FieldType)) ∈ zTb := zTb_of 35 (by decide +kernel) (by decide +kernel)
theorem kw_949 : (Jvm.Cond.methodLink "BarrierFlowLaw" (157 : Nat) ({ cls := "BarrierFlowLaw", name := "setup", desc := "([I)Ljava/lang/String;" } : Jvm.MethodName)) ∈ zTb := zTb_of 949 (by decide +kernel) (by decide +kernel)
theorem kw_951 : (Jvm.Cond.code ({ cls := "BarrierFlowLaw", name := "setup", desc := "([I)Ljava/lang/String;" } : Jvm.MethodName) method_7_code (4 : Nat) (Option.some (Jvm.ClassFile.FieldType.object "java/lang/String"))) ∈ zTb := zTb_of 951 (by decide +kernel) (by decide +kernel)
theorem kw_950 : (Jvm.Cond.static ({ cls := "BarrierFlowLaw", name := "setup", desc := "([I)Ljava/lang/String;" } : Jvm.MethodName)) ∈ zTb := zTb_of 950 (by decide +kernel) (by decide +kernel)
theorem hyL_setup : yL_setup.cls ≠ "java/lang/invoke/MethodHandle" ∧ yL_setup.cls ≠ "java/lang/invoke/VarHandle" ∧ (parseMethodDescriptor yL_setup.desc).map (fun d => d.parameters.length) = some 1 := ⟨by decide +kernel, by decide +kernel, by decide +kernel⟩
theorem kw_782 : (Jvm.Cond.methodLink "BarrierFlowLaw" (161 : Nat) ({ cls := "BarrierFlowLaw", name := "parsed", desc := "(LBarrierFlow;Ljava/lang/String;)I" } : Jvm.MethodName)) ∈ zTb := zTb_of 782 (by decide +kernel) (by decide +kernel)
theorem kw_784 : (Jvm.Cond.code ({ cls := "BarrierFlowLaw", name := "parsed", desc := "(LBarrierFlow;Ljava/lang/String;)I" } : Jvm.MethodName) method_5_code (2 : Nat) (Option.some Jvm.ClassFile.FieldType.int)) ∈ zTb := zTb_of 784 (by decide +kernel) (by decide +kernel)
theorem kw_783 : (Jvm.Cond.static ({ cls := "BarrierFlowLaw", name := "parsed", desc := "(LBarrierFlow;Ljava/lang/String;)I" } : Jvm.MethodName)) ∈ zTb := zTb_of 783 (by decide +kernel) (by decide +kernel)
theorem hyL_parsed : yL_parsed.cls ≠ "java/lang/invoke/MethodHandle" ∧ yL_parsed.cls ≠ "java/lang/invoke/VarHandle" ∧ (parseMethodDescriptor yL_parsed.desc).map (fun d => d.parameters.length) = some 2 := ⟨by decide +kernel, by decide +kernel, by decide +kernel⟩
set_option maxRecDepth 100000 in
set_option maxHeartbeats 4000000 in
theorem whole_start {p : Program} {e : Env} {s : State} {m : MethodId} {below : List Frame} {meth : Method} {c : Code} (l : Launch) (hflags : l.flags = flags0) {b L : Nat} {xs : Nat → Int32} (hL : L ≤ 260) (C0 : lw_At p s m meth c b L xs) : W p l e room_1 s m #[Value.ref b] below meth c s.heap [] 0 0 (lw_Z below #[Value.ref b] s) (entryFrame m ([Value.ref b] : List Value).toArray 9) := by
  obtain ⟨hx, hb, hr, hml, hown, hts, hX, hbl, hlocks, hgv⟩ := id C0
  have hl0 : l.stackTraces = false := by
    unfold Launch.stackTraces
    rw [hflags]
    decide +kernel
  have hLS : zLS s s.heap.size b L xs := ⟨hX, hbl, Nat.not_le.mpr hbl, by omega⟩
  obtain ⟨ev, dg, hE⟩ := zEn_start hts hgv hLS
  obtain ⟨D, Ca, hV⟩ := zV_start hts
  have C : zC p s m #[Value.ref b] meth c cL_law RL 9 D Ca s.heap.size (zEn ev dg b L xs s.heap.size) := ⟨hx, hb, hml, fun w hw => hts w (List.mem_filter.mp hw).1, hown, hV, hE, zEn_k ev dg b L xs _, Nat.le_refl _, hlocks, zNest_start hts⟩
  have hZ : ∀ U : State, zEn ev dg b L xs s.heap.size U → zEnv ev s.heap.size U := fun U h => h.1.1
  have hT : ∀ U : State, zEn ev dg b L xs s.heap.size U → zThr s.heap.size U := fun U h => h.1.2.1
  have hAO : ∀ U : State, zEn ev dg b L xs s.heap.size U → va_AO "BarrierFlow$Flow" U := fun U h => h.1.2.2
  have hP : ∀ U : State, zEn ev dg b L xs s.heap.size U → zSl U := fun U h => h.2.1
  have hG : ∀ U : State, zEn ev dg b L xs s.heap.size U → zDg dg s.heap.size U := fun U h => h.2.2.1
  have hY : ∀ U : State, zEn ev dg b L xs s.heap.size U → zLS U s.heap.size b L xs := fun U h => h.2.2.2
  have hl := lv_entry ([.ref b]) (n := 9) (Nat.le_of_ble_eq_true rfl)
  rw [lg_entry_eq]
  obtain ⟨σ0, hσ0⟩ : ∃ σ0 : zS, σ0 = (fun _ => (0, 0), fun _ _ => 0, fun _ _ => none, fun _ _ => 0) := ⟨_, rfl⟩
  have h0 : zH D Ca s.heap.size σ0 s.heap.size s.heap := ⟨rfl, Nat.le_refl _, fun a e9 he => by
    have : zent Ca σ0 a = none := by
      rw [hσ0]
      rfl
    rw [this] at he
    cases he⟩
  have hk0 : ∀ a, σ0.1 a = (0, 0) := fun a => by rw [hσ0]
  have key : zW p l e room_1 s m #[Value.ref b] below meth c 0 0 (lw_Z below #[Value.ref b] s) D Ca s.heap.size 9 σ0 s.heap.size 0 [(0, .ref b)] [] := by
    clear hl h0 hσ0
    obtain ⟨X, hXX⟩ : ∃ X, X = s.heap.size := ⟨_, rfl⟩
    obtain ⟨τ1, e1, g1, hCI⟩ := n_X9 (σ := znew σ0 X (13, 0)) (X := X) (SK_new0 [7])
    have hf1 : zfree τ1 (X + 307) := fun a ha => by
      rw [(g1 a (by omega)).1, (znew_o (σ := σ0) (q := (13, 0)) (show a ≠ X by omega)).1]
      exact hk0 a
    rw [hXX] at e1 g1 hCI hf1
    refine z_newO (Cn := RX9) (T := TX9) (Nf := 10) (k := 8) C rfl rfl zin_8 tyX9 tyX9_ok kw_31 kw_32 kw_1 hdef_8 (Nat.le_of_ble_eq_true rfl) (Nat.le_of_ble_eq_true rfl) dL_law_0 ?_
    refine z_dup C dL_law_3 rfl ?_
    refine z_callN (As := []) C (nX9_init l D Ca s.heap.size (zEn ev dg b L xs s.heap.size) C.2.2.2.2.2.2.2.1 ev hZ hAO (znew σ0 s.heap.size (13, 0)) (s.heap.size + 1) s.heap.size τ1 e1) kw_35 kw_1 kw_33 rfl kw_34 hyX9_init (Nat.le_of_ble_eq_true rfl) (Nat.le_of_ble_eq_true rfl) rfl rfl (Nat.le_of_ble_eq_true rfl) dL_law_4 (Nat.le_of_ble_eq_true rfl) (Nat.le_of_ble_eq_true rfl) ?_
    refine z_astore_n (lv2 := [(1, .ref s.heap.size), (0, .ref b)]) C dL_law_7 rfl (by decide) rfl ?_
    refine z_aload_n C dL_law_8 rfl 0 rfl ?_
    refine z_aload_n C dL_law_9 rfl 1 rfl ?_
    rw [show s.heap.size + 1 + 306 = s.heap.size + 307 from rfl]
    refine z_callSr (As := [.ref b]) C (mL_setup l C.2.2.2.2.2.2.2.1 ev hZ hP dg hG hY τ1 (s.heap.size + 307) hf1) kw_951 kw_0 kw_949 kw_950 hyL_setup (Nat.le_of_ble_eq_true rfl) (Nat.le_of_ble_eq_true rfl) rfl rfl (Nat.le_of_ble_eq_true rfl) dL_law_10 (Nat.le_of_ble_eq_true rfl) (Nat.le_of_ble_eq_true rfl) (fun τ2 sa N2 hK hN2 => ?_)
    obtain ⟨⟨sd, hSA, hd1, hd2⟩, ha1, ha2, hq2, hf2⟩ := hK
    obtain ⟨hT7, hlen, D9, hD9, hD91⟩ := xT_ok xs L
    have c2 := CI_eq hCI (zeq_sub hq2 (Nat.zero_le _) (Nat.le_refl _))
    refine z_callK (As := [.ref s.heap.size, .ref sa]) C (mL_parsed l C.2.2.2.2.2.2.2.1 ev hZ N2 c2 hSA hT7 hlen ha1 hd1 ha2 hd2 hf2 hD9) kw_784 kw_0 kw_782 kw_783 hyL_parsed (Nat.le_of_ble_eq_true rfl) (Nat.le_of_ble_eq_true rfl) rfl rfl (Nat.le_of_ble_eq_true rfl) dL_law_13 (Nat.le_of_ble_eq_true rfl) (Nat.le_of_ble_eq_true rfl) (fun τ3 r3 N3 hK3 hN3 => ?_)
    obtain ⟨⟨er3, h3⟩, ek3⟩ := hK3
    rw [er3]
    have hf3 : zfree τ3 N3 := zfree_le (zfree_k hf2 ek3) hN3
    have hdr := dr_in xs L 0 (lo := 1) (hi := 3) (by omega)
    have eN : ((D9.1 : Nat) : Int) = dr xs L 0 1 3 := by rw [hD91]; unfold xN; omega
    refine z_aload_n C dL_law_16 rfl 1 rfl ?_
    refine z_iconst C (zi 0) dL_law_17 (by decide) ?_
    refine z_iconst C (zi 1) dL_law_18 (by decide) ?_
    refine z_iconst C (zi 3) dL_law_19 (by decide) ?_
    refine z_callSi (As := [.ref b, .int (zi ((0 : Nat) : Int)), .int (zi 1), .int (zi 3)]) (st := [.int (zi (D9.1 : Nat))]) (F0 := 14) (L0 := 540) C (mL_draw l C.2.2.2.2.2.2.2.1 hY τ3 N3 0 (by omega) (by omega) (by omega) (by omega)) ⟨Nat.le_of_ble_eq_true rfl, Nat.le_of_ble_eq_true rfl, Nat.le_of_ble_eq_true rfl, Nat.le_of_ble_eq_true rfl⟩ kw_776 kw_0 kw_774 kw_775 hyL_draw (Nat.le_of_ble_eq_true rfl) (Nat.le_of_ble_eq_true rfl) rfl rfl (Nat.le_of_ble_eq_true rfl) dL_law_20 ?_
    refine z_icmp_eq C 28 dL_law_23 (by decide) (fun _ => ?_) (fun q => absurd (by rw [eN]) q)
    refine z_aload_n C dL_law_28 rfl 1 rfl ?_
    refine z_bipush C (zi 15) dL_law_29 (by decide) ?_
    refine z_iconst C (zi 3) dL_law_31 (by decide) ?_
    refine z_bipush C (zi 30) dL_law_32 (by decide) ?_
    refine z_callSi (As := [.ref b, .int (zi ((15 : Nat) : Int)), .int (zi 3), .int (zi 30)]) (st := []) (F0 := 14) (L0 := 540) C (mL_draw l C.2.2.2.2.2.2.2.1 hY τ3 N3 15 (by omega) (by omega) (by omega) (by omega)) ⟨Nat.le_of_ble_eq_true rfl, Nat.le_of_ble_eq_true rfl, Nat.le_of_ble_eq_true rfl, Nat.le_of_ble_eq_true rfl⟩ kw_776 kw_0 kw_774 kw_775 hyL_draw (Nat.le_of_ble_eq_true rfl) (Nat.le_of_ble_eq_true rfl) rfl rfl (Nat.le_of_ble_eq_true rfl) dL_law_34 ?_
    have hmn := dr_in xs L 15 (lo := 3) (hi := 30) (by omega)
    rw [dr_nat xs L 15 (lo := 3) (hi := 30) (by omega) (by omega)]
    refine z_istore_n (lv2 := [(2, .int (zi ((dr xs L 15 3 30).toNat : Nat))), (1, .ref s.heap.size), (0, .ref b)]) C dL_law_37 rfl (by decide) rfl ?_
    refine z_iconst C (zi 0) dL_law_38 (by decide) ?_
    refine z_istore_n (lv2 := [(3, .int (zi 0)), (2, .int (zi ((dr xs L 15 3 30).toNat : Nat))), (1, .ref s.heap.size), (0, .ref b)]) C dL_law_39 rfl (by decide) rfl ?_
    refine z_sub (lv2 := [(0, .ref b), (1, .ref s.heap.size), (2, .int (zi ((dr xs L 15 3 30).toNat : Nat))), (3, .int (zi ((0 : Nat) : Int)))]) [3, 2, 1, 0] rfl ?_
    exact law_loop (many := (dr xs L 15 3 30).toNat) C hr hT hl0 hY (by omega) (dr xs L 15 3 30).toNat 0 _ _ _ τ3 N3 _ _ 0 (by omega) h3 hf3 (by omega) (by omega) (by omega) (by omega) (by omega)
  exact key s.heap [] _ h0 va_S.rf hl
