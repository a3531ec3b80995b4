/-! A checkpoint is completed. -/
theorem qcomplete_S {k : Nat} {M : qM} (h : k < 118 ∨ 144 ≤ k) (h2 : k ≠ 67) (h3 : k ≠ 6) : (qcomplete M).1 k = M.1 k := by
  unfold qcomplete
  dsimp only
  rw [if_neg h2, if_neg h3, if_neg (by omega), if_neg (by omega), if_neg (by omega), if_neg (by omega), if_neg (by omega), if_neg (by omega), if_neg (by omega)]
theorem qcomplete_n {k : Nat} {M : qM} (h : k < 20) : (qcomplete M).1 (124 + k) = M.1 (98 + k) := by
  unfold qcomplete
  dsimp only
  rw [if_neg (by omega), if_neg (by omega), if_neg (by omega), if_neg (by omega), if_neg (by omega), if_neg (by omega), if_neg (by omega), if_neg (by omega), if_pos (by omega), show 124 + k - 26 = 98 + k from by omega]
theorem qcomplete_L {c : Nat} {M : qM} (h : c < 54) : (qcomplete M).2.1 c = M.2.1 c := if_neg (by omega)
theorem qcomplete_D {c : Nat} {M : qM} (h : c < 24) : (qcomplete M).2.1 (54 + c) = M.2.1 (30 + c) := (if_pos (by omega)).trans (by rw [show 54 + c - 24 = 30 + c from by omega])
theorem qcomplete_B {M : qM} : (qcomplete M).2.2 = M.2.2 := rfl
theorem qfull_of {P : qP} {M : qM} (h : qfull P M = true) : M.1 67 = 1 ∧ (∀ s, s < P.1 → M.1 (70 + s) = 1) ∧ ∀ r x, r < 6 → qlc P M r x → M.1 (74 + (4 * r + x)) = 1 := by
  unfold qfull at h
  simp only [Bool.and_eq_true, decide_eq_true_eq, List.all_eq_true, List.mem_range] at h
  obtain ⟨⟨⟨h1, h2⟩, h3⟩, h4⟩ := h
  refine ⟨h1, h2, fun r x hr hlc => ?_⟩
  obtain ⟨a, b⟩ := hlc
  unfold qlr at a
  unfold qns at b
  by_cases e : r < 4
  · rw [if_pos e] at a b; exact h3 r a x b
  · rw [if_neg e] at a b
    have := h4 (r - 4) a x b
    rw [show 4 * (4 + (r - 4)) + x = 4 * r + x from by omega] at this
    exact this
theorem qI_complete {P : qP} {M : qM} (hI : qI P M) (hf : qfull P M = true) : qI P (qcomplete M) := by
  obtain ⟨h67, hput, hfl⟩ := qfull_of hf
  obtain ⟨⟨hP, hN, hV, hFG, hZ, hOn, hX, hC, hC2⟩, hW⟩ := hI
  obtain ⟨hO, ⟨e1, e3, e4⟩, hH⟩ := hOn h67
  have hW := hW h67
  have h1 : (qcomplete M).1 1 = M.1 1 := qcomplete_S (by omega) (by omega) (by omega)
  have hk := qix hP hN
  have hm4 := qN_many hN
  have hnk := hP.2.2.2.1
  have hcut : ∀ r x, r < 6 → x < 4 → qlc P M r x → M.1 (144 + r) = 1 ∧ M.2.2 (4 * r + x) = -1 ∧ M.1 (43 + (4 * r + x)) = 0 := by
    intro r x hr hx hlc
    obtain ⟨g1, g2, g3, g4, g5, g6⟩ := e1 r x hr hx hlc
    have hfx := hfl r x hr hlc
    have h2 : M.2.2 (4 * r + x) = -1 := by
      apply Decidable.byContradiction
      intro q
      have := (g2.mp q).2; omega
    rcases hO.1 with h0 | h0
    · have hc : M.1 (144 + r) = 1 := (hW r hr hlc.1).2 h0 (fun y hy => hfl r y hr ⟨hlc.1, hy⟩)
      refine ⟨hc, h2, ?_⟩
      rcases hN.2.2.2.2.2.2.2.2.2.2.2.2.2 (4 * r + x) (by omega) with q | q
      · exact q
      · have := ((g6 h0).1.mp q).2; omega
    · exact ⟨(g5 h0).2 hfx, h2, (g5 h0).1⟩
  clear e1
  refine ⟨⟨hP, ?_, ?_, fun k hk16 => ⟨?_, ?_⟩, ?_, ?_, ?_, ?_, ?_⟩, ?_⟩
  · obtain ⟨a1, a2, a3, a4, a5, a6, a7, a8, a9, a10, a11, a12, a13, a14⟩ := hN
    refine ⟨?_, ?_, ?_, ?_, ?_, ?_, ?_, Or.inl rfl, Or.inr rfl, Or.inl rfl, hO.1, ?_, ?_, ?_⟩
    · rw [h1]; exact a1
    · rw [qcomplete_S (by omega) (by omega) (by omega)]; exact a2
    · rw [qcomplete_S (by omega) (by omega) (by omega)]; exact a3
    · rw [qcomplete_S (by omega) (by omega) (by omega)]; exact a4
    · intro s hs; rw [qcomplete_S (by omega) (by omega) (by omega)]; exact a5 s hs
    · intro s hs; rw [qcomplete_S (by omega) (by omega) (by omega)]; exact a6 s hs
    · intro s hs; rw [qcomplete_n (by omega)]; exact hO.2.2.2.2.1 s hs
    · intro s hs; rw [qlr_eq h1, qns_eq h1, qcomplete_S (by omega) (by omega) (by omega)]; exact a12 s hs
    · intro s hs; rw [qcomplete_S (by omega) (by omega) (by omega)]; exact a13 s hs
    · intro s hs; rw [qcomplete_S (by omega) (by omega) (by omega)]; exact a14 s hs
  · intro d m hd hmm
    rw [qmany_eq h1]
    by_cases h : d < 54
    · rw [qcomplete_L h] at hmm; exact hV d m hd hmm
    · obtain ⟨c, rfl⟩ : ∃ c, d = 54 + c := ⟨d - 54, by omega⟩
      rw [qcomplete_D (by omega)] at hmm
      have := hV (30 + c) m (by omega) hmm
      unfold qch at this ⊢
      rw [if_neg (by omega), if_pos (by omega), show 30 + c - 30 = c from by omega] at this
      rw [if_neg (by omega), if_neg (by omega), show 54 + c - 54 = c from by omega]
      exact this
  · exact qIF_congr hP hN h1 (qcomplete_S (by omega) (by omega) (by omega)) (qcomplete_S (by omega) (by omega) (by omega)) (fun d _ => by rw [qcomplete_L (by omega)]) (hFG k hk16).1
  · obtain ⟨k1, k2, k3, k4, k5, k6⟩ := hk k
    have hH := hH k hk16
    have hhid : qhid (qcomplete M) := ⟨rfl, rfl⟩
    have hlo : qlc P M (4 + qsk P k) (qown k (qmany M)) := by
      unfold qlc qlr qns
      rw [if_neg (by omega), if_neg (by omega)]
      omega
    have fo := hfl _ _ (by omega) hlo
    rw [show 4 * (4 + qsk P k) + qown k (qmany M) = qco P k (qmany M) from by omega] at fo
    have c1 := (hcut _ _ (by omega) (by omega) hlo).1
    rw [show 144 + (4 + qsk P k) = 148 + qsk P k from by omega] at c1
    unfold qIH at hH
    obtain ⟨H1, H2, -⟩ := hH
    have hb : qbase P (qcomplete M) k ++ qf P k ((qcomplete M).2.1 (54 + qco P k (qmany M))) = qpre P M k := by
      unfold qbase qpre
      rw [if_pos hhid, qcomplete_D (by omega), qcomplete_L (by omega), qcomplete_L (by omega), c1, fo]
      simp only [if_true, List.append_nil]
    unfold qIG
    rw [qmany_eq h1, hb, qcomplete_n (by omega), show 128 + k = 124 + (4 + k) from by omega, qcomplete_n (by omega), show 98 + (4 + k) = 102 + k from by omega, qcomplete_D (by omega)]
    by_cases hs : k % 4 < P.1
    · have hli : qlc P M (qown k (qmany M)) (k % 4) := by
        unfold qlc qlr qns
        rw [if_pos k4, if_pos k4]
        omega
      have fi := hfl _ _ (by omega) hli
      rw [show 4 * qown k (qmany M) + k % 4 = qci k (qmany M) from by omega] at fi
      unfold qpri at H1
      rw [fi, if_pos rfl, List.append_nil, hput _ hs, if_pos rfl] at H1
      exact ⟨H1, H2 (hcut _ _ (by omega) (by omega) hli).1⟩
    · have hr0 := hP.2.2.2.2.2.1 (k % 4) (by omega)
      have hq0 : ∀ p, qfrom P k p = [] := fun p => qfrom_end (by omega)
      rw [hq0, hq0] at H1
      rw [hq0, hq0]
      simp only [List.append_nil, List.append_eq_nil_iff] at H1
      obtain ⟨Ha, Hb⟩ := H1
      unfold qpri at Hb
      rw [List.append_eq_nil_iff] at Hb
      rw [Ha, Hb.1]
      refine ⟨rfl, ?_⟩
      have hl0 : qlc P M (qown k (qmany M)) 0 := by
        unfold qlc qlr qns
        rw [if_pos k4, if_pos k4]
        have := hP.1
        omega
      rw [H2 (hcut _ _ (by omega) (by omega) hl0).1, Ha]
  · intro _
    refine ⟨fun c hc => ?_, fun h => absurd ⟨rfl, rfl⟩ h⟩
    rw [qcomplete_S (by omega) (by omega) (by omega), qcomplete_B]
    have e : 4 * (c / 4) + c % 4 = c := by omega
    by_cases hl : qlc P M (c / 4) (c % 4)
    · have := hcut (c / 4) (c % 4) (by omega) (by omega) hl
      rw [e] at this
      exact this.2
    · have := hX (c / 4) (c % 4) (by omega) (by omega) hl
      rw [e] at this
      exact this
  · intro h; cases h
  · intro t y ht hy h
    rw [qlc_eq h1] at h
    rw [qcomplete_S (by omega) (by omega) (by omega), qcomplete_B]
    exact hX t y ht hy h
  · intro h; cases h
  · intro _; exact hO.2.2.2.2.2.1
  · intro h; cases h
theorem qS_at {M : qM} {v : Int} {k : Nat} : (qS M k v).1 k = v := qu_at M.1 k v
theorem qtick0_S {M : qM} {v : Int} {k : Nat} (h : k ≠ 0) : (qS M 0 v).1 k = M.1 k := qu_ne h
/-- a number that nothing of the flow's order rests on -/
theorem qI_num {P : qP} {M : qM} {k : Nat} {v : Int} (hI : qI P M) (hk : k = 0 ∧ M.1 0 ≤ v ∨ k = 2 ∧ 1 ≤ v ∧ v ≤ 9 ∨ k = 3 ∧ 0 ≤ v ∧ v ≤ 99 ∨ k = 4 ∧ (v = 0 ∨ v = 1) ∨ 9 ≤ k ∧ k < 13 ∧ 0 ≤ v ∧ v ≤ 9 ∨ 37 ≤ k ∧ k < 43 ∧ 0 ≤ v ∧ v ≤ qns P M (k - 37)) : qI P (qS M k v) := by
  obtain ⟨⟨hP, hN, hV, hFG, hZ, hOn, hX, hC, hC2⟩, hW⟩ := hI
  have hS : ∀ j, (13 ≤ j ∧ (j < 37 ∨ 43 ≤ j) ∨ j = 1 ∨ j = 5) → (qS M k v).1 j = M.1 j := fun j h => qu_ne (by rcases hk with h2 | h2 | h2 | h2 | h2 | h2 <;> omega)
  have hL : (qS M k v).2 = M.2 := rfl
  have h1 : (qS M k v).1 1 = M.1 1 := hS 1 (by omega)
  have hm : qmany (qS M k v) = qmany M := qmany_eq h1
  refine ⟨⟨hP, ?_, ?_, fun j hj => ?_, ?_, ?_, ?_, ?_, ?_⟩, ?_⟩
  · obtain ⟨a1, a2, a3, a4, a5, a6, a7, a8, a9, a10, a11, a12, a13, a14⟩ := hN
    refine ⟨?_, ?_, ?_, ?_, ?_, ?_, ?_, ?_, ?_, ?_, ?_, ?_, ?_, ?_⟩
    · rw [h1]; exact a1
    · by_cases e : k = 2
      · subst e; rw [qS_at]; omega
      · rw [show (qS M k v).1 2 = M.1 2 from qu_ne (by omega)]; exact a2
    · by_cases e : k = 3
      · subst e; rw [qS_at]; omega
      · rw [show (qS M k v).1 3 = M.1 3 from qu_ne (by omega)]; exact a3
    · by_cases e : k = 4
      · subst e; rw [qS_at]; omega
      · rw [show (qS M k v).1 4 = M.1 4 from qu_ne (by omega)]; exact a4
    · intro s hs
      by_cases e : k = 9 + s
      · subst e; rw [qS_at]; omega
      · rw [show (qS M k v).1 (9 + s) = M.1 (9 + s) from qu_ne (by omega)]; exact a5 s hs
    · intro s hs; rw [hS _ (by omega)]; exact a6 s hs
    · intro s hs; rw [hS _ (by omega)]; exact a7 s hs
    · rw [hS _ (by omega)]; exact a8
    · rw [hS _ (by omega)]; exact a9
    · rw [hS _ (by omega)]; exact a10
    · rw [hS _ (by omega)]; exact a11
    · intro s hs
      rw [qlr_eq h1, qns_eq h1]
      by_cases e : k = 37 + s
      · subst e; rw [qS_at]; rw [show 37 + s - 37 = s from by omega] at hk; omega
      · rw [show (qS M k v).1 (37 + s) = M.1 (37 + s) from qu_ne (by omega)]; exact a12 s hs
    · intro s hs; rw [hS _ (by omega)]; exact a13 s hs
    · intro s hs; rw [hS _ (by omega)]; exact a14 s hs
  · intro d m hd hmm
    rw [hm]
    exact hV d m hd hmm
  · obtain ⟨hF, hG⟩ := hFG j hj
    exact ⟨qIF_congr hP hN h1 (hS _ (by omega)) (hS _ (by omega)) (fun _ _ => rfl) hF, qIG_congr hP hN h1 (qbase_congr hP (hS _ (by omega)) (hS _ (by omega)) (fun _ _ _ => rfl)) (hS _ (by omega)) (hS _ (by omega)) (fun _ _ _ => rfl) hG⟩
  · intro h
    rw [hS _ (by omega)] at h
    obtain ⟨z1, z2⟩ := hZ h
    refine ⟨fun c hc => ?_, fun hh => ?_⟩
    · rw [hS _ (by omega)]; exact z1 c hc
    · unfold qhid at hh; rw [hS _ (by omega), hS _ (by omega)] at hh; exact z2 hh
  · intro h
    rw [hS _ (by omega)] at h
    obtain ⟨hO, ⟨e1, e3, e4⟩, hH⟩ := hOn h
    have hh : qhid (qS M k v) ↔ qhid M := by unfold qhid; rw [hS _ (by omega), hS _ (by omega)]
    refine ⟨?_, ⟨fun r x hr hx hlc => ?_, fun q => ?_, fun q j hj => ?_⟩, fun j hj => ?_⟩
    · obtain ⟨o1, o2, o3, o4, o5, o6, o7, o8, o9, o10⟩ := hO
      refine ⟨?_, ?_, ?_, ?_, ?_, ?_, ?_, ?_, ?_, ?_⟩
      · rw [hS _ (by omega)]; exact o1
      · intro s hs; rw [hS _ (by omega)]; exact o2 s hs
      · intro s hs; rw [hS _ (by omega)]; exact o3 s hs
      · intro s hs; rw [hS _ (by omega)]; exact o4 s hs
      · intro s hs; rw [hS _ (by omega)]; exact o5 s hs
      · rw [hS _ (by omega)]; exact o6
      · rw [hS _ (by omega)]
        by_cases e : k = 0
        · subst e; rw [qS_at]; omega
        · rw [show (qS M k v).1 0 = M.1 0 from qu_ne (by omega)]; exact o7
      · intro s hs; rw [hS _ (by omega)]; exact o8 s hs
      · intro r x hr hx; rw [qlc_eq h1, hS _ (by omega)]; exact o9 r x hr hx
      · intro s hs; rw [qlr_eq h1, hS _ (by omega)]; exact o10 s hs
    · rw [qlc_eq h1] at hlc
      have es : qsrc (qS M k v) r x = qsrc M r x := by unfold qsrc; split <;> exact hS _ (by omega)
      rw [es, hS (74 + (4 * r + x)) (by omega), hS (144 + r) (by omega), hS (43 + (4 * r + x)) (by omega), hS 69 (by omega)]
      exact e1 r x hr hx hlc
    · obtain ⟨f1, f2, f3⟩ := e3 (hh.mp q)
      exact ⟨fun s hs => by rw [hS _ (by omega)]; exact f1 s hs, fun s hs => by rw [hS _ (by omega)]; exact f2 s hs, fun s hs => by rw [hS _ (by omega)]; exact f3 s hs⟩
    · rw [hS _ (by omega)]; exact e4 (fun u => q (hh.mpr u)) j hj
    · have hH := hH j hj
      unfold qIH qpre qpri qup at hH ⊢
      rw [hm, hL]
      obtain ⟨k1, k2, k3, k4, k5, k6⟩ := qix hP hN j
      rw [hS (148 + qsk P j) (by omega), hS (74 + qco P j (qmany M)) (by omega), hS (74 + qci j (qmany M)) (by omega), hS (70 + j % 4) (by omega), hS (98 + j % 4) (by omega), hS (13 + j % 4) (by omega), hS (144 + qown j (qmany M)) (by omega), hS (102 + j) (by omega)]
      exact hH
  · intro r x hr hx h
    rw [qlc_eq h1] at h
    rw [hS _ (by omega)]
    exact hX r x hr hx h
  · intro h
    rw [hS _ (by omega)] at h
    exact ⟨fun j hj => by rw [hS _ (by omega)]; exact (hC h).1 j hj, (hC h).2⟩
  · intro h
    rw [hS _ (by omega)] at h ⊢
    exact hC2 h
  · intro h r hr hl
    rw [hS _ (by omega)] at h
    rw [qlr_eq h1] at hl
    obtain ⟨a, b⟩ := hW h r hr hl
    have h4 := qns_le hP hN r
    rw [qns_eq h1, hS 69 (by omega), hS (144 + r) (by omega)]
    refine ⟨fun u w => ?_, fun u w => b u (fun x hx => ?_)⟩
    · obtain ⟨x, hx, hx2⟩ := a u w
      exact ⟨x, hx, by rw [hS _ (by omega)]; exact hx2⟩
    · have := w x hx
      rw [hS _ (by omega)] at this
      exact this
