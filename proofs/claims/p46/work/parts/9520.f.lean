/-! FEED and PARSED: a made text becomes the flow's setup. -/
theorem dL_parsed_0 : decode cL_parsed 0 = .ok (.aload_n 0, 1) := by decide +kernel
theorem dL_parsed_1 : decode cL_parsed 1 = .ok (.aload_n 1, 1) := by decide +kernel
theorem dL_parsed_2 : decode cL_parsed 2 = .ok (.invokestatic 35, 3) := by decide +kernel
theorem dL_parsed_5 : decode cL_parsed 5 = .ok (.aload_n 0, 1) := by decide +kernel
theorem dL_parsed_6 : decode cL_parsed 6 = .ok (.invokevirtual 38, 3) := by decide +kernel
theorem dL_parsed_9 : decode cL_parsed 9 = .ok (.ireturn, 1) := by decide +kernel
theorem kw_848 : (Jvm.Cond.methodLink "BarrierFlowLaw" (31 : Nat) ({ cls := "BarrierFlow", name := "truncate", desc := "(I)Z" } : Jvm.MethodName)) ∈ zTb := zTb_of 848 (by decide +kernel) (by decide +kernel)
theorem kw_849 : (Jvm.Cond.instanceMethod ({ cls := "BarrierFlow", name := "truncate", desc := "(I)Z" } : Jvm.MethodName)) ∈ zTb := zTb_of 849 (by decide +kernel) (by decide +kernel)
theorem kw_851 : (Jvm.Cond.code ({ cls := "BarrierFlow", name := "truncate", desc := "(I)Z" } : Jvm.MethodName) prog_1_method_3_code (2 : Nat) (Option.some Jvm.ClassFile.FieldType.boolean)) ∈ zTb := zTb_of 851 (by decide +kernel) (by decide +kernel)
theorem kw_850 : (Jvm.Cond.selects "BarrierFlow" ({ cls := "BarrierFlow", name := "truncate", desc := "(I)Z" } : Jvm.MethodName) ({ cls := "BarrierFlow", name := "truncate", desc := "(I)Z" } : Jvm.MethodName)) ∈ zTb := zTb_of 850 (by decide +kernel) (by decide +kernel)
theorem kw_836 : (Jvm.Cond.methodLink "BarrierFlowLaw" (25 : Nat) ({ cls := "BarrierFlow", name := "feed", desc := "(IIIII)I" } : Jvm.MethodName)) ∈ zTb := zTb_of 836 (by decide +kernel) (by decide +kernel)
theorem kw_837 : (Jvm.Cond.instanceMethod ({ cls := "BarrierFlow", name := "feed", desc := "(IIIII)I" } : Jvm.MethodName)) ∈ zTb := zTb_of 837 (by decide +kernel) (by decide +kernel)
theorem kw_839 : (Jvm.Cond.code ({ cls := "BarrierFlow", name := "feed", desc := "(IIIII)I" } : Jvm.MethodName) prog_1_method_2_code (6 : Nat) (Option.some Jvm.ClassFile.FieldType.int)) ∈ zTb := zTb_of 839 (by decide +kernel) (by decide +kernel)
theorem kw_838 : (Jvm.Cond.selects "BarrierFlow" ({ cls := "BarrierFlow", name := "feed", desc := "(IIIII)I" } : Jvm.MethodName) ({ cls := "BarrierFlow", name := "feed", desc := "(IIIII)I" } : Jvm.MethodName)) ∈ zTb := zTb_of 838 (by decide +kernel) (by decide +kernel)
theorem kw_785 : (Jvm.Cond.methodLink "BarrierFlowLaw" (35 : Nat) ({ cls := "BarrierFlowLaw", name := "feed", desc := "(LBarrierFlow;Ljava/lang/String;)V" } : Jvm.MethodName)) ∈ zTb := zTb_of 785 (by decide +kernel) (by decide +kernel)
theorem kw_787 : (Jvm.Cond.code ({ cls := "BarrierFlowLaw", name := "feed", desc := "(LBarrierFlow;Ljava/lang/String;)V" } : Jvm.MethodName) method_4_code (5 : Nat) (Option.none : Option Jvm.ClassFile.FieldType)) ∈ zTb := zTb_of 787 (by decide +kernel) (by decide +kernel)
theorem kw_786 : (Jvm.Cond.static ({ cls := "BarrierFlowLaw", name := "feed", desc := "(LBarrierFlow;Ljava/lang/String;)V" } : Jvm.MethodName)) ∈ zTb := zTb_of 786 (by decide +kernel) (by decide +kernel)
theorem hyL_feed : yL_feed.cls ≠ "java/lang/invoke/MethodHandle" ∧ yL_feed.cls ≠ "java/lang/invoke/VarHandle" ∧ (parseMethodDescriptor yL_feed.desc).map (fun d => d.parameters.length) = some 2 := ⟨by decide +kernel, by decide +kernel, by decide +kernel⟩
theorem kw_852 : (Jvm.Cond.methodLink "BarrierFlowLaw" (38 : Nat) ({ cls := "BarrierFlow", name := "parse", desc := "()I" } : Jvm.MethodName)) ∈ zTb := zTb_of 852 (by decide +kernel) (by decide +kernel)
theorem kw_853 : (Jvm.Cond.instanceMethod ({ cls := "BarrierFlow", name := "parse", desc := "()I" } : Jvm.MethodName)) ∈ zTb := zTb_of 853 (by decide +kernel) (by decide +kernel)
theorem kw_855 : (Jvm.Cond.code ({ cls := "BarrierFlow", name := "parse", desc := "()I" } : Jvm.MethodName) prog_1_method_4_code (3 : Nat) (Option.some Jvm.ClassFile.FieldType.int)) ∈ zTb := zTb_of 855 (by decide +kernel) (by decide +kernel)
theorem kw_854 : (Jvm.Cond.selects "BarrierFlow" ({ cls := "BarrierFlow", name := "parse", desc := "()I" } : Jvm.MethodName) ({ cls := "BarrierFlow", name := "parse", desc := "()I" } : Jvm.MethodName)) ∈ zTb := zTb_of 854 (by decide +kernel) (by decide +kernel)
theorem T7_B {tx : List Int32} (h : T7 tx) : TB tx := TB_of (fun c hc => by
  obtain ⟨i, hi, e⟩ := List.mem_iff_getElem.mp hc
  obtain ⟨n, h1, h2⟩ := h i hi
  rw [List.getD_eq_getElem?_getD, List.getElem?_eq_getElem hi] at h2
  have h3 : tx[i] = nI n := h2
  rw [← e, h3, nI_toInt (by omega)]
  omega)
theorem strip_zent {Ca : Nat → ClassId} {σ υ : zS} {N : Nat} (h : zfree σ N) (e : ∀ a, a ≠ N → υ.1 a = σ.1 a) : ∀ a x, zent Ca (σ.1, υ.2) a = some x → zent Ca υ a = some x := by
  intro a x hx
  by_cases ea : a = N
  · subst ea
    have : zent Ca (σ.1, υ.2) a = none := by
      unfold zent
      dsimp only
      rw [h a (Nat.le_refl a)]
    rw [this] at hx
    cases hx
  · rw [← hx]
    exact zent_off (e a ea) rfl rfl rfl
theorem zaI_5 {σ : zS} {A : Nat} {g : Nat → Int32} {q : Nat × Nat} (j : Nat) (hj : j < 5) (h : σ.1 A = (1, 5)) : zaI (rp σ A g) A (zi (j : Nat)) = some (g j) := by
  rw [zaI_of j (show (rp σ A g).1 A = (1, 5) from h) rfl hj (by omega), rp_at]
section FD
variable {D : va_G} {Ca : Nat → ClassId} {B : Nat} {En : State → Prop}
set_option maxRecDepth 100000 in
set_option maxHeartbeats 4000000 in
theorem mL_feed (l : Launch) (hE : zEk B En) (ev : zEv) (hZ : ∀ U : State, En U → zEnv ev B U) {σ : zS} {X sa sd : Nat} {P : qP} {nm : Nat → List Int32} {M : qM} {H : List qM} {S : Option qM} {tx ou : List Int32} {er ea : Int} (N : Nat) (h : CI σ X P nm M H S [] er ea ou) (hSA : SA σ sa sd tx) (hT : T7 tx) (hl : tx.length ≤ 280) (h1 : X + 307 ≤ sa) (h2 : X + 307 ≤ sd) (h3 : sa < N) (h4 : sd < N) (hf : zfree σ N) :
    zMKv l D Ca B En yL_feed cL_feed 5 4 85 15 75 [.ref X, .ref sa] σ N (fun τ => CI τ X P nm M H S tx er ea ou ∧ τ.1 = σ.1) := by
  refine zMet_Kv (own := RL) hE (by decide +kernel) rfl (Nat.le_of_ble_eq_true rfl) (fun p e s m args below meth c C hr => ?_)
  have kX : ∀ τ : zS, τ.1 = σ.1 → (τ.1 X).1 = 13 := fun τ e => by
    obtain ⟨w, q, G, hR, -⟩ := h
    rw [e]
    exact hR.1.1
  have loop : ∀ (n j : Nat) (τ : zS) (N2 cells slots : Nat), n + j = 15 → τ.1 = σ.1 → zeq σ τ (X + 307) N → CI τ X P nm M H S (fedT tx j) er ea ou → N ≤ N2 → cells ≤ j → slots ≤ 5 * j → (20 * j < tx.length + 20) →
      zW p l e (zRoomN 4 85 15 75) s m args below meth c cells slots (MQ below (va_Qv (fun (u : zS × Nat) => (CI u.1 X P nm M H S tx er ea ou ∧ u.1.1 = σ.1) ∧ N ≤ u.2) (fun u => zIn D Ca B En u.1 u.2) (zA B)) args s 15 75 (zA B)) D Ca B 5 τ N2 2 [(0, .ref X), (1, .ref sa), (2, .int (zi ((20 * j : Nat) : Int)))] [] := by
    intro n
    induction n with
    | zero => intro j τ N2 cells slots hn e9 hz hC hN hc hs hj; omega
    | succ n ih =>
      intro j τ N2 cells slots hn e9 hz hC hN hc hs hj
      have hS : SA τ sa sd tx := SA_eq hSA (zeq_sub hz (by omega) (by omega)) (zeq_sub hz (by omega) (by omega))
      have hRm : zRm (zRoomN 4 85 15 75) 4 85 cells slots := ⟨Nat.le_refl _, Nat.le_refl _, show cells ≤ 15 by omega, show slots ≤ 75 by omega⟩
      refine z_iload_n C dL_feed_2 rfl 2 rfl ?_
      refine z_aload_n C dL_feed_3 rfl 1 rfl ?_
      refine z_callVi (As := []) (F0 := 4) (L0 := 85) C (mK0_length_8abf5 l D Ca B En C.2.2.2.2.2.2.2.1 ev hZ τ N2 sa _ (zck_ok (sa_len hS)).2) hRm hS.1 rfl kw_791 kw_16 kw_788 kw_789 kw_790 hyJ0_length_8abf5 (Nat.le_of_ble_eq_true rfl) (Nat.le_of_ble_eq_true rfl) rfl rfl (Nat.le_of_ble_eq_true rfl) dL_feed_4 ?_
      by_cases hq : tx.length ≤ 20 * j
      · refine z_icmp_ge C 100 dL_feed_7 (by decide) (fun _ => ?_) (fun q => absurd (zi_yle (by omega) (by omega) (by omega)) q)
        refine z_aload_n C dL_feed_100 rfl 0 rfl ?_
        refine z_aload_n C dL_feed_101 rfl 1 rfl ?_
        refine z_callVi (As := []) (F0 := 4) (L0 := 85) C (mK0_length_8abf5 l D Ca B En C.2.2.2.2.2.2.2.1 ev hZ τ N2 sa _ (zck_ok (sa_len hS)).2) hRm hS.1 rfl kw_791 kw_16 kw_788 kw_789 kw_790 hyJ0_length_8abf5 (Nat.le_of_ble_eq_true rfl) (Nat.le_of_ble_eq_true rfl) rfl rfl (Nat.le_of_ble_eq_true rfl) dL_feed_102 ?_
        obtain ⟨υ, eυ, cυ, fυ⟩ := ca_trunc (n := (tx.length : Int)) hC ⟨by omega, by omega⟩
        have hlen : (fedT tx j).length = 20 * j := by
          unfold fedT
          simp
        have ett : aTruncT (fedT tx j) (tx.length : Int) = tx := by
          unfold aTruncT
          rw [if_pos (by omega), Int.toNat_natCast, fed_all hT hq]
        rw [ett] at cυ
        refine z_callVi (As := [.int (zi (tx.length : Nat))]) (F0 := 4) (L0 := 85) C (mX9_truncate l D Ca B En C.2.2.2.2.2.2.2.1 τ N2 X _ _ eυ) hRm (kX τ e9) rfl kw_851 kw_1 kw_848 kw_849 kw_850 hyX9_truncate (Nat.le_of_ble_eq_true rfl) (Nat.le_of_ble_eq_true rfl) rfl rfl (Nat.le_of_ble_eq_true rfl) dL_feed_105 ?_
        refine z_pop C dL_feed_108 rfl ?_
        exact zfin_Kv (K := fun τ => CI τ X P nm M H S tx er ea ou ∧ τ.1 = σ.1) C ⟨cυ, fυ.1.trans e9⟩ hr hN (by omega) (by omega) dL_feed_109
      · refine z_icmp_ge C 100 dL_feed_7 (by decide) (fun q => absurd q (zi_nle (by omega) (by omega) (by omega))) (fun _ => ?_)
        have hfT : zfree τ N2 := fun a ha => by
          rw [e9]
          exact hf a (by omega)
        refine z_iconst C (zi 5) dL_feed_10 (by decide) ?_
        refine z_newI (n9 := 5) C kw_154 (by decide +kernel) (by decide +kernel) (Nat.le_of_ble_eq_true rfl) (show cells + 1 ≤ 15 by omega) (show slots + 5 ≤ 75 by omega) dL_feed_11 ?_
        have hSn : SA (znew τ N2 (1, 5)) sa sd tx := SA_eq hS (zgr_eq zgr_new (by omega)) (zgr_eq zgr_new (by omega))
        obtain ⟨x9, ex, g, rfl, hg⟩ := ev_words (X := X) (A := N2) (p := 20 * j) hSn hT (by omega) (by omega) (by omega) (by omega) znew_k (fun i hi => by
          have e3 : (znew τ N2 (1, 5)).2.1 N2 = fun _ => 0 := if_pos rfl
          rw [e3])
        have hRm2 : zRm (zRoomN 4 85 15 75) 4 85 (cells + 1) (slots + 5) := ⟨Nat.le_refl _, Nat.le_refl _, show cells + 1 ≤ 15 by omega, show slots + 5 ≤ 75 by omega⟩
        refine z_astore_n (lv2 := [(3, .ref N2), (0, .ref X), (1, .ref sa), (2, .int (zi ((20 * j : Nat) : Int)))]) C dL_feed_13 rfl (by decide) rfl ?_
        refine z_iconst C (zi 0) dL_feed_14 (by decide) ?_
        refine z_istore (lv2 := [(4, .int (zi 0)), (3, .ref N2), (0, .ref X), (1, .ref sa), (2, .int (zi ((20 * j : Nat) : Int)))]) C dL_feed_15 (by decide) rfl ?_
        refine z_sub (lv2 := [(0, .ref X), (1, .ref sa), (2, .int (zi ((20 * j : Nat) : Int))), (3, .ref N2), (4, .int (zi 0))]) [2, 3, 4, 1, 0] rfl ?_
        refine wsL_feed_17 C hRm2 ev hZ X sa _ N2 zfuel (znew τ N2 (1, 5), zi 0) _ ex (fun o eo => ?_)
        subst eo
        have hk : (znew τ N2 (1, 5)).1 N2 = (1, 5) := znew_k
        refine z_aload_n C dL_feed_74 rfl 0 rfl ?_
        refine z_aload_n C dL_feed_75 rfl 3 rfl ?_
        refine z_iconst C (zi 0) dL_feed_76 (by decide) ?_
        refine z_aI C (zaI_5 (q := (0, 0)) 0 (by omega) hk) dL_feed_77 ?_
        refine z_aload_n C dL_feed_78 rfl 3 rfl ?_
        refine z_iconst C (zi 1) dL_feed_79 (by decide) ?_
        refine z_aI C (zaI_5 (q := (0, 0)) 1 (by omega) hk) dL_feed_80 ?_
        refine z_aload_n C dL_feed_81 rfl 3 rfl ?_
        refine z_iconst C (zi 2) dL_feed_82 (by decide) ?_
        refine z_aI C (zaI_5 (q := (0, 0)) 2 (by omega) hk) dL_feed_83 ?_
        refine z_aload_n C dL_feed_84 rfl 3 rfl ?_
        refine z_iconst C (zi 3) dL_feed_85 (by decide) ?_
        refine z_aI C (zaI_5 (q := (0, 0)) 3 (by omega) hk) dL_feed_86 ?_
        refine z_aload_n C dL_feed_87 rfl 3 rfl ?_
        refine z_iconst C (zi 4) dL_feed_88 (by decide) ?_
        refine z_aI C (zaI_5 (q := (0, 0)) 4 (by omega) hk) dL_feed_89 ?_
        rw [hg 0 (by omega), hg 1 (by omega), hg 2 (by omega), hg 3 (by omega), hg 4 (by omega)]
        have hCn : CI (rp (znew τ N2 (1, 5)) N2 g) X P nm M H S (fedT tx j) er ea ou := CI_eq (CI_eq hC (zgr_eq zgr_new (by omega))) (rp_zeq (by omega))
        obtain ⟨υ, eυ, cυ, fυ⟩ := ca_feed (a := nI (Wc tx (20 * j) 0 20)) (b := nI (Wc tx (20 * j) 1 20)) (c := nI (Wc tx (20 * j) 2 20)) (d := nI (Wc tx (20 * j) 3 20)) (e := nI (Wc tx (20 * j) 4 20)) hCn
        rw [fed_step hT (by omega)] at cυ
        have kX2 : ((rp (znew τ N2 (1, 5)) N2 g).1 X).1 = 13 := by
          have : (znew τ N2 (1, 5)).1 X = τ.1 X := if_neg (by omega)
          show ((znew τ N2 (1, 5)).1 X).1 = 13
          rw [this]
          exact kX τ e9
        refine z_callVi (As := [.int (nI (Wc tx (20 * j) 0 20)), .int (nI (Wc tx (20 * j) 1 20)), .int (nI (Wc tx (20 * j) 2 20)), .int (nI (Wc tx (20 * j) 3 20)), .int (nI (Wc tx (20 * j) 4 20))]) (F0 := 4) (L0 := 85) C (mX9_feed l D Ca B En C.2.2.2.2.2.2.2.1 _ _ X _ _ _ _ _ _ eυ) hRm2 kX2 rfl kw_839 kw_1 kw_836 kw_837 kw_838 hyX9_feed (Nat.le_of_ble_eq_true rfl) (Nat.le_of_ble_eq_true rfl) rfl rfl (Nat.le_of_ble_eq_true rfl) dL_feed_90 ?_
        refine z_pop C dL_feed_93 rfl ?_
        refine z_iinc (lv2 := [(2, .int (zi ((20 * (j + 1) : Nat) : Int))), (0, .ref X), (1, .ref sa), (3, .ref N2)]) C (zi ((20 * (j + 1) : Nat) : Int)) dL_feed_94 2 rfl ?_ (by decide) rfl ?_
        · show zi ((20 * j : Nat) : Int) + zi 20 = _
          rw [zi_add]
          congr 1
        refine z_goto C 2 dL_feed_97 (by decide) ?_
        refine z_sub (lv2 := [(0, .ref X), (1, .ref sa), (2, .int (zi ((20 * (j + 1) : Nat) : Int)))]) [1, 2, 0] rfl ?_
        have hk9 : ∀ a, a ≠ N2 → υ.1 a = τ.1 a := fun a ha => by
          rw [fυ.1]
          exact if_neg ha
        refine z_weak (τ := (τ.1, υ.2)) (strip_zent hfT hk9) ?_
        refine ih (j + 1) (τ.1, υ.2) (N2 + 1) (cells + 1) (slots + 5) (by omega) e9 (fun a a1 a2 => ?_) (CI_eq cυ (fun a a1 a2 => ⟨(hk9 a (by omega)).symm, rfl, rfl, rfl⟩)) (by omega) (by omega) (by omega) (by omega)
        have q1 := hz a a1 a2
        have q2 := fυ.2 a (by omega)
        have q3 : (rp (znew τ N2 (1, 5)) N2 g).2.1 a = τ.2.1 a := by
          rw [rp_ne (by omega)]
          exact if_neg (by omega)
        have q4 : (rp (znew τ N2 (1, 5)) N2 g).2.2.1 a = τ.2.2.1 a := if_neg (show ¬ a = N2 by omega)
        have q5 : (rp (znew τ N2 (1, 5)) N2 g).2.2.2 a = τ.2.2.2 a := if_neg (show ¬ a = N2 by omega)
        exact ⟨q1.1, by rw [← q1.2.1, ← q3]; exact q2.1, by rw [← q1.2.2.1, ← q4]; exact q2.2.1, by rw [← q1.2.2.2, ← q5]; exact q2.2.2⟩
  refine z_iconst C (zi 0) dL_feed_0 (by decide) ?_
  refine z_istore_n (lv2 := [(2, .int (zi 0)), (0, .ref X), (1, .ref sa)]) C dL_feed_1 rfl (by decide) rfl ?_
  refine z_sub (lv2 := [(0, .ref X), (1, .ref sa), (2, .int (zi ((20 * 0 : Nat) : Int)))]) [1, 2, 0] rfl ?_
  exact loop 15 0 σ N 0 0 (by omega) rfl (fun a _ _ => ⟨rfl, rfl, rfl, rfl⟩) h (Nat.le_refl _) (Nat.le_refl _) (Nat.le_refl _) (by omega)
theorem mL_parsed (l : Launch) (hE : zEk B En) (ev : zEv) (hZ : ∀ U : State, En U → zEnv ev B U) {σ : zS} {X sa sd : Nat} {P : qP} {nm : Nat → List Int32} {M : qM} {H : List qM} {S : Option qM} {tx ou : List Int32} {er ea : Int} (N : Nat) (h : CI σ X P nm M H S [] er ea ou) (hSA : SA σ sa sd tx) (hT : T7 tx) (hl : tx.length ≤ 280) (h1 : X + 307 ≤ sa) (h2 : X + 307 ≤ sd) (h3 : sa < N) (h4 : sd < N) (hf : zfree σ N) {D9 : pD} (hp : ppa tx = .inr D9) :
    zMK l D Ca B En yL_parsed cL_parsed 2 (Option.some Jvm.ClassFile.FieldType.int) 11 240 15 75 [.ref X, .ref sa] σ N (fun τ r => (r = zi (D9.1 : Nat) ∧ LC 0 τ X (pP D9) (pM D9) [] none) ∧ τ.1 = σ.1) := by
  refine zMet_K (own := RL) hE (by decide +kernel) rfl (Nat.le_of_ble_eq_true rfl) (fun p e s m args below meth c C hr => ?_)
  refine z_aload_n C dL_parsed_0 rfl 0 rfl ?_
  refine z_aload_n C dL_parsed_1 rfl 1 rfl ?_
  refine z_callKv (As := [.ref X, .ref sa]) C (mL_feed l C.2.2.2.2.2.2.2.1 ev hZ N h hSA hT hl h1 h2 h3 h4 hf) kw_787 kw_0 kw_785 kw_786 hyL_feed (Nat.le_of_ble_eq_true rfl) (Nat.le_of_ble_eq_true rfl) rfl rfl (Nat.le_of_ble_eq_true rfl) dL_parsed_2 (Nat.le_of_ble_eq_true rfl) (Nat.le_of_ble_eq_true rfl) (fun τ N2 hK hN => ?_)
  obtain ⟨hC, e9⟩ := hK
  have kX : (τ.1 X).1 = 13 := by
    obtain ⟨w, q, G, hR, -⟩ := hC
    exact hR.1.1
  obtain ⟨υ, eυ, cυ, fυ⟩ := ca_parse hC (T7_B hT) hp
  have hok := ppa_ok (show tx.length ≤ 300 by omega) hp
  refine z_aload_n C dL_parsed_5 rfl 0 rfl ?_
  refine z_callVi (As := []) (F0 := 11) (L0 := 240) C (mX9_parse l D Ca B En C.2.2.2.2.2.2.2.1 ev hZ τ N2 X _ eυ) ⟨Nat.le_refl _, Nat.le_refl _, Nat.le_of_ble_eq_true rfl, Nat.le_of_ble_eq_true rfl⟩ kX rfl kw_855 kw_1 kw_852 kw_853 kw_854 hyX9_parse (Nat.le_of_ble_eq_true rfl) (Nat.le_of_ble_eq_true rfl) rfl rfl (Nat.le_of_ble_eq_true rfl) dL_parsed_6 ?_
  refine zfin_K (K := fun τ r => (r = zi (D9.1 : Nat) ∧ LC 0 τ X (pP D9) (pM D9) [] none) ∧ τ.1 = σ.1) C ⟨⟨rfl, _, _, _, _, _, cυ, QI_start hok.1 hok.2.2.1 (Int.le_refl 0), ?_, fun N hN => (by cases hN), fun N hN => (by cases hN)⟩, fυ.1.trans e9⟩ hr hN (by omega) (by omega) dL_parsed_9
  unfold pM
  exact qJ_start
end FD
