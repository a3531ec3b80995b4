/-! The class's checkpoint is dealt out for other workers. -/
section KSp
variable {σ : zS} {f b u x n : Nat} {V : Nat → Nat → Int32} {M : qM} {P : qP}
theorem gK_lo {M : qM} {o c : Nat} (h : c < 24) : gK M o c = M.2.1 (o + c) := if_pos h
theorem gK_hi {M : qM} {o c : Nat} (h : 24 ≤ c) : gK M o c = [] := if_neg (by omega)
theorem qI_doneE (hI : qI P M) {i s : Nat} (h1 : qmany M ≤ i) (hi : i < 4) (hs : s < 4) : M.2.1 (54 + (4 * i + s)) = [] := by
  rw [List.eq_nil_iff_forall_not_mem]
  intro r hr
  have a := qI_atF hI (Or.inr rfl) (c := 4 * i + s) (by omega) hr
  have h2 := a.2.1 (by omega)
  have h3 := a.1
  have h4 := qown_lt (k := qkey P r) (qN_many hI.1.2.1).1
  omega
theorem qI_doneO (hI : qI P M) {i k : Nat} (h1 : qmany M ≤ i) (hi : i < 4) (hk : k < 2) : M.2.1 (54 + (4 * (4 + k) + i)) = [] := by
  rw [List.eq_nil_iff_forall_not_mem]
  intro r hr
  have a := qI_atF hI (Or.inr rfl) (c := 4 * (4 + k) + i) (by omega) hr
  have h2 := a.2.2.1 (by omega) (by omega)
  have h4 := qown_lt (k := qkey P r) (qN_many hI.1.2.1).1
  have h5 := qsk_lt (k := qkey P r) hI.1.1.2.2.1
  have h6 := hI.1.1.2.2.2.1
  omega
theorem k_spreadA (h : KS σ f u P) (hI : qI P M) (hx : fx x) (hn : 1 ≤ n ∧ n ≤ 4) (hL : LLD V (x + 4) (gK M 54)) :
    ∃ W L2, zloop (sX0_spread_3 (f + x) u (zi (qmany M)) (zi n)) zfuel (fput σ f V b u, zi 0) = some (fput σ f W b u) ∧ LLD W (x + 4) L2 ∧ (∀ c, c < 16 → L2 c = qpart P n (fun d => M.2.1 (54 + d)) c) ∧ (∀ c, 16 ≤ c → L2 c = gK M 54 c) ∧ ∀ p, (p ≤ x + 4 ∨ x + 4 + 4 < p) → W p = V p := by
  have hS := h.1
  have hP := h.2.2.2
  have hP4 := hP.2.1
  have h4 := qN_many hI.1.2.1
  have ho := fx_o hx
  obtain ⟨W, e, L2, a1, a2, a3, a4⟩ := cfor (σ := σ) (f := f) (b := b) (u := u) (step := sX0_spread_3 (f + x) u (zi (qmany M)) (zi n)) 0 P.1 (fun s W => ∃ L2, LLD W (x + 4) L2 ∧ (∀ c, c < 16 → c % 4 < s → L2 c = qpart P n (fun d => M.2.1 (54 + d)) c) ∧ (∀ c, ¬ (c < 16 ∧ c % 4 < s) → L2 c = gK M 54 c) ∧ ∀ p, (p ≤ x + 4 ∨ x + 4 + 4 < p) → W p = V p)
    (fun s W _ hs hW => by
      obtain ⟨L2, a1, a2, a3, a4⟩ := hW
      have hl : ∀ i, i < 4 → L2 (4 * i + s) = M.2.1 (54 + (4 * i + s)) := fun i hi => by rw [a3 _ (by omega), gK_lo (by omega)]
      obtain ⟨W1, L3, e1, b1, W2, L4, e2, c1, c2, c3, c4, c5⟩ := k_line (σ := σ) (f := f) (b := b) (u := u) (V := W) (stepG := sX0_spread_15 (f + x) u (zi (qmany M)) (zi n) (zi (s : Int))) (stepD := sX0_spread_54 (f + x) u (zi (qmany M)) (zi n) (zi (s : Int))) (ch := fun i => 4 * i + s) (own := fun r => qown (qkey P r) n) (m := qmany M) hS ho a1 (by omega) (fun i hi => by omega) (fun i j hi hj q => by omega) (by rw [a3 24 (by omega)]; rfl)
        (fun i i1 i2 => by rw [hl i i2]; exact qI_doneE hI i1 i2 (by omega))
        (fun i r hi hr => by
          try dsimp only at hr ⊢
          rw [hl i hi] at hr
          have := qown_lt (k := qkey P r) hn.1
          exact ⟨by omega, (qI_recF hI (by omega) hr).1⟩)
        (fun i X hi => by
          unfold sX0_spread_15 sX0_spread_15b
          dsimp only
          rw [if_neg (zi_nle (by omega) (by omega) (by omega)), cr_10 hS hx, Option.bind_some, c_channel, Option.bind_some]
          dsimp only
          rw [fc_3 hS ho]
          rfl)
        (fun X => by
          unfold sX0_spread_15 sX0_spread_15b
          dsimp only
          rw [if_pos (zi_yle (by omega) (by omega) (Int.le_refl _))])
        (fun X X2 i r y hi hr ht y1 y2 => by
          try dsimp only at hr ⊢
          rw [hl i hi] at hr
          obtain ⟨r1, r2, r3⟩ := qI_recF hI (by omega) hr
          unfold sX0_spread_54 sX0_spread_54b
          dsimp only
          rw [if_neg (zi_nle (by omega) (by omega) (by omega)), cr_10 hS hx, Option.bind_some, fc_3 hS ho, show zi 24 = zi ((24 : Nat) : Int) from rfl, ht, Option.bind_some]
          dsimp only
          rw [cr_10 hS hx, Option.bind_some, su_c (KS_su h), su_key (KS_su h) r1 r2, Option.bind_some]
          dsimp only
          rw [c_owner (qkey_lt r1) (by omega), Option.bind_some]
          dsimp only
          rw [c_channel, Option.bind_some]
          dsimp only
          rw [fc_3 hS ho, zi_add]
          rfl)
        (fun X => by
          unfold sX0_spread_54 sX0_spread_54b
          dsimp only
          rw [if_pos (by decide)])
      refine ⟨W2, ?_, L4, c1, fun c d1 d2 => ?_, fun c d1 => ?_, fun p hp => by rw [c5 p hp, a4 p hp]⟩
      · unfold sX0_spread_3 sX0_spread_3b
        dsimp only
        rw [su_i (KS_su h), Option.bind_some, (KS_su h).2.1, if_neg (zi_nle (by omega) (by omega) (by omega)), e1, Option.bind_some, cr_10 hS hx, Option.bind_some, fc_3 hS ho, show zi 24 = zi ((24 : Nat) : Int) from rfl, c_sizeOf hS ho b1.1 (by omega), Option.bind_some]
        dsimp only
        rw [e2, Option.bind_some]
      · by_cases q : c % 4 < s
        · rw [c4 c (by omega) (fun i hi => by omega)]
          exact a2 c d1 q
        · have e : c = 4 * (c / 4) + s := by omega
          have := c3 (c / 4) (by omega)
          try dsimp only at this
          rw [← e] at this
          rw [this]
          unfold qpart
          rw [if_pos d1, if_pos (by omega), show c % 4 = s from by omega]
          congr 1
          simp only [List.range_succ, List.range_zero, List.nil_append, List.flatMap_append, List.flatMap_cons, List.flatMap_nil]
          rw [hl 0 (by omega), hl 1 (by omega), hl 2 (by omega), hl 3 (by omega)]
      · by_cases q : c = 24
        · rw [q, c2]; rfl
        · rw [c4 c q (fun i hi => by omega)]
          exact a3 c (by omega))
    (fun W _ => by
      unfold sX0_spread_3 sX0_spread_3b
      dsimp only
      rw [su_i (KS_su h), Option.bind_some, (KS_su h).2.1, if_pos (zi_yle (by omega) (by omega) (Int.le_refl _))])
    (by omega) (by omega) (V := V) (x := 0) rfl ⟨gK M 54, hL, fun c _ q => absurd q (Nat.not_lt_zero _), fun _ _ => rfl, fun _ _ => rfl⟩
  refine ⟨W, L2, e, a1, fun c hc => ?_, fun c hc => a3 c (by omega), a4⟩
  by_cases q : c % 4 < P.1
  · exact a2 c hc q
  · rw [a3 c (by omega), gK_lo (by omega)]
    have : M.2.1 (54 + c) = [] := by
      rw [List.eq_nil_iff_forall_not_mem]
      intro r hr
      have r3 := (qI_recF hI (by omega) hr).2.2
      have a := (qI_atF hI (Or.inr rfl) (c := c) (by omega) hr).2.1 hc
      omega
    rw [this]
    unfold qpart
    rw [if_pos hc, if_neg q]
theorem k_spreadB {L : Nat → List Nat} (h : KS σ f u P) (hI : qI P M) (hx : fx x) (hn : 1 ≤ n ∧ n ≤ 4) (hL : LLD V (x + 4) L) (hA : ∀ c, c < 16 → L c = qpart P n (fun d => M.2.1 (54 + d)) c) (hB : ∀ c, 16 ≤ c → L c = gK M 54 c) :
    ∃ W L2, zloop (sX0_spread_109 (f + x) u (zi (qmany M)) (zi n)) zfuel (fput σ f V b u, zi 0) = some (fput σ f W b u) ∧ LLD W (x + 4) L2 ∧ (∀ c, c < 24 → L2 c = qpart P n (fun d => M.2.1 (54 + d)) c) ∧ (∀ c, 24 ≤ c → L2 c = []) ∧ ∀ p, (p ≤ x + 4 ∨ x + 4 + 4 < p) → W p = V p := by
  have hS := h.1
  have hP := h.2.2.2
  have hP2 := hP.2.2.2.1
  have h4 := qN_many hI.1.2.1
  have ho := fx_o hx
  obtain ⟨W, e, L2, a1, a2, a3, a4⟩ := cfor (σ := σ) (f := f) (b := b) (u := u) (step := sX0_spread_109 (f + x) u (zi (qmany M)) (zi n)) 0 P.2.1 (fun k W => ∃ L2, LLD W (x + 4) L2 ∧ (∀ c, 16 ≤ c → c < 24 → c / 4 - 4 < k → L2 c = qpart P n (fun d => M.2.1 (54 + d)) c) ∧ (∀ c, ¬ (16 ≤ c ∧ c < 24 ∧ c / 4 - 4 < k) → L2 c = L c) ∧ ∀ p, (p ≤ x + 4 ∨ x + 4 + 4 < p) → W p = V p)
    (fun k W _ hk hW => by
      obtain ⟨L2, a1, a2, a3, a4⟩ := hW
      have hl : ∀ i, i < 4 → L2 (4 * (4 + k) + i) = M.2.1 (54 + (4 * (4 + k) + i)) := fun i hi => by rw [a3 _ (by omega), hB _ (by omega), gK_lo (by omega)]
      obtain ⟨W1, L3, e1, b1, W2, L4, e2, c1, c2, c3, c4, c5⟩ := k_line (σ := σ) (f := f) (b := b) (u := u) (V := W) (stepG := sX0_spread_121 (f + x) u (zi (qmany M)) (zi n) (zi (k : Int))) (stepD := sX0_spread_162 (f + x) u (zi (qmany M)) (zi n) (zi (k : Int))) (ch := fun i => 4 * (4 + k) + i) (own := fun r => qown (qkey P r) n) (m := qmany M) hS ho a1 (by omega) (fun i hi => by omega) (fun i j hi hj q => by omega) (by rw [a3 24 (by omega), hB 24 (by omega)]; rfl)
        (fun i i1 i2 => by rw [hl i i2]; exact qI_doneO hI i1 i2 (by omega))
        (fun i r hi hr => by
          try dsimp only at hr ⊢
          rw [hl i hi] at hr
          have := qown_lt (k := qkey P r) hn.1
          exact ⟨by omega, (qI_recF hI (by omega) hr).1⟩)
        (fun i X hi => by
          unfold sX0_spread_121 sX0_spread_121b
          dsimp only
          rw [if_neg (zi_nle (by omega) (by omega) (by omega)), cr_10 hS hx, Option.bind_some, zi_add, show (4 : Int) + (k : Int) = ((4 + k : Nat) : Int) from by omega, c_channel, Option.bind_some]
          dsimp only
          rw [fc_3 hS ho]
          rfl)
        (fun X => by
          unfold sX0_spread_121 sX0_spread_121b
          dsimp only
          rw [if_pos (zi_yle (by omega) (by omega) (Int.le_refl _))])
        (fun X X2 i r y hi hr ht y1 y2 => by
          try dsimp only at hr ⊢
          rw [hl i hi] at hr
          obtain ⟨r1, r2, r3⟩ := qI_recF hI (by omega) hr
          unfold sX0_spread_162 sX0_spread_162b
          dsimp only
          rw [if_neg (zi_nle (by omega) (by omega) (by omega)), cr_10 hS hx, Option.bind_some, fc_3 hS ho, show zi 24 = zi ((24 : Nat) : Int) from rfl, ht, Option.bind_some]
          dsimp only
          rw [cr_10 hS hx, Option.bind_some, su_c (KS_su h), su_key (KS_su h) r1 r2, Option.bind_some]
          dsimp only
          rw [c_owner (qkey_lt r1) (by omega), Option.bind_some]
          dsimp only
          rw [zi_add 4 (k : Int), show (4 : Int) + (k : Int) = ((4 + k : Nat) : Int) from by omega, c_channel, Option.bind_some]
          dsimp only
          rw [fc_3 hS ho, zi_add]
          rfl)
        (fun X => by
          unfold sX0_spread_162 sX0_spread_162b
          dsimp only
          rw [if_pos (by decide)])
      refine ⟨W2, ?_, L4, c1, fun c d1 d3 d2 => ?_, fun c d1 => ?_, fun p hp => by rw [c5 p hp, a4 p hp]⟩
      · unfold sX0_spread_109 sX0_spread_109b
        dsimp only
        rw [su_i (KS_su h), Option.bind_some, (KS_su h).2.2.1, if_neg (zi_nle (by omega) (by omega) (by omega)), e1, Option.bind_some, cr_10 hS hx, Option.bind_some, fc_3 hS ho, show zi 24 = zi ((24 : Nat) : Int) from rfl, c_sizeOf hS ho b1.1 (by omega), Option.bind_some]
        dsimp only
        rw [e2, Option.bind_some]
      · by_cases q : c / 4 - 4 < k
        · rw [c4 c (by omega) (fun i hi => by omega)]
          exact a2 c d1 d3 q
        · have e : c = 4 * (4 + k) + c % 4 := by omega
          have := c3 (c % 4) (by omega)
          try dsimp only at this
          rw [← e] at this
          rw [this]
          unfold qpart
          rw [if_neg (by omega), if_pos (by omega), show c / 4 = 4 + k from by omega]
          congr 1
          simp only [List.range_succ, List.range_zero, List.nil_append, List.flatMap_append, List.flatMap_cons, List.flatMap_nil]
          rw [hl 0 (by omega), hl 1 (by omega), hl 2 (by omega), hl 3 (by omega)]
      · by_cases q : c = 24
        · rw [q, c2, hB 24 (by omega)]; rfl
        · rw [c4 c q (fun i hi => by omega)]
          exact a3 c (by omega))
    (fun W _ => by
      unfold sX0_spread_109 sX0_spread_109b
      dsimp only
      rw [su_i (KS_su h), Option.bind_some, (KS_su h).2.2.1, if_pos (zi_yle (by omega) (by omega) (Int.le_refl _))])
    (by omega) (by omega) (V := V) (x := 0) rfl ⟨L, hL, fun c _ _ q => absurd q (Nat.not_lt_zero _), fun _ _ => rfl, fun _ _ => rfl⟩
  refine ⟨W, L2, e, a1, fun c hc => ?_, fun c hc => ?_, a4⟩
  · by_cases q16 : c < 16
    · rw [a3 c (by omega)]; exact hA c q16
    · by_cases q : c / 4 - 4 < P.2.1
      · exact a2 c (by omega) hc q
      · rw [a3 c (by omega), hB c (by omega), gK_lo hc]
        have : M.2.1 (54 + c) = [] := by
          rw [List.eq_nil_iff_forall_not_mem]
          intro r hr
          have a := (qI_atF hI (Or.inr rfl) (c := c) hc hr).2.2.1 (by omega) hc
          have h5 := qsk_lt (k := qkey P r) hP.2.2.1
          have h6 := qown_lt (k := qkey P r) h4.1
          omega
        rw [this]
        unfold qpart
        rw [if_neg q16, if_neg q]
  · rw [a3 c (by omega), hB c (by omega)]
    exact gK_hi hc
theorem k_spread (h : KS σ f u P) (hI : qI P M) (hx : fx x) (hn : 1 ≤ n ∧ n ≤ 4) (hL : LL V (x + 4) (gK M 54)) :
    ∃ W L2, fX0_spread (fput σ f V b u) (f + x) u (zi (qmany M)) (zi n) = some (fput σ f W b u) ∧ LLD W (x + 4) L2 ∧ (∀ c, c < 24 → L2 c = qpart P n (fun d => M.2.1 (54 + d)) c) ∧ (∀ c, 24 ≤ c → L2 c = []) ∧ ∀ p, (p ≤ x + 4 ∨ x + 4 + 4 < p) → W p = V p := by
  obtain ⟨W1, L1, e1, a1, a2, a3, a4⟩ := k_spreadA (b := b) h hI hx hn ⟨hL, LD_K hI (Or.inr rfl)⟩
  obtain ⟨W2, L2, e2, b1, b2, b3, b4⟩ := k_spreadB (b := b) h hI hx hn a1 a2 a3
  refine ⟨W2, L2, ?_, b1, b2, b3, fun p hp => by rw [b4 p hp, a4 p hp]⟩
  unfold fX0_spread
  rw [e1, Option.bind_some, e2, Option.bind_some]
end KSp
