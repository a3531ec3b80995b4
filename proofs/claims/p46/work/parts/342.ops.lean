/-! The steps of a tick. -/
theorem q_sum01 {f : Nat → Int} : ∀ {n : Nat}, (∀ x, x < n → f x = 0 ∨ f x = 1) → 0 ≤ ((List.range n).map f).sum ∧ ((List.range n).map f).sum ≤ n ∧ (((List.range n).map f).sum = 0 ↔ ∀ x, x < n → f x = 0) ∧ (((List.range n).map f).sum = n ↔ ∀ x, x < n → f x = 1)
  | 0, _ => by
    refine ⟨by simp, by simp, by simp, ?_⟩
    constructor
    · intro _ x hx; omega
    · intro _; simp
  | n + 1, h => by
    obtain ⟨h1, h2, h3, h4⟩ := q_sum01 (f := f) (n := n) (fun x hx => h x (by omega))
    have h5 := h n (by omega)
    rw [List.range_succ, List.map_append, List.sum_append]
    simp only [List.map_cons, List.map_nil, List.sum_cons, List.sum_nil, Int.add_zero]
    refine ⟨by omega, by omega, ?_, ?_⟩
    · constructor
      · intro h x hx
        by_cases e : x = n
        · subst e; omega
        · exact h3.mp (by omega) x (by omega)
      · intro hh
        have := h3.mpr (fun x hx => hh x (by omega))
        have := hh n (by omega)
        omega
    · constructor
      · intro h x hx
        by_cases e : x = n
        · subst e; omega
        · exact h4.mp (by omega) x (by omega)
      · intro hh
        have := h4.mpr (fun x hx => hh x (by omega))
        have := hh n (by omega)
        omega
theorem qcnt_eq {P : qP} {M : qM} (hI : qI0 P M) (h67 : M.1 67 = 1) {r : Nat} (hr : r < 6) : 0 ≤ qcnt P M r ∧ qcnt P M r ≤ qns P M r ∧ (qcnt P M r = 0 ↔ ∀ x, x < qns P M r → M.1 (74 + (4 * r + x)) = 0) ∧ (qcnt P M r = qns P M r ↔ ∀ x, x < qns P M r → M.1 (74 + (4 * r + x)) = 1) := by
  have h4 := qns_le hI.1 hI.2.1 r
  have hO := (hI.2.2.2.2.2.1 h67).1.2.2.1
  exact q_sum01 (fun x hx => hO _ (by omega))
/-- overtaking: the first barrier's arrival is the cut -/
theorem qcnt_cut {P : qP} {M : qM} (hI : qI P M) (h67 : M.1 67 = 1) (h69 : M.1 69 = 1) {r : Nat} (hr : r < 6) (hl : qlr P M r) : qcnt P M r = 0 ↔ M.1 (144 + r) = 0 := by
  obtain ⟨h1, h2, h3, h4⟩ := qcnt_eq hI.1 h67 hr
  have hns := qns_le hI.1.1 hI.1.2.1 r
  obtain ⟨hO, hE, -⟩ := hI.1.2.2.2.2.2.1 h67
  rw [h3]
  constructor
  · intro h
    rcases hO.2.2.2.1 r hr with q | q
    · exact q
    · obtain ⟨x, hx, hx2⟩ := (hI.2 h67 r hr hl).1 h69 q
      rw [h x hx] at hx2; cases hx2
  · intro h x hx
    rcases hO.2.2.1 (4 * r + x) (by omega) with q | q
    · exact q
    · have := ((hE.1 r x hr (by omega) ⟨hl, hx⟩).2.2.2.2.1 h69).2 q
      omega
theorem qmove_eq {P : qP} {M : qM} (hI : qI P M) {r x n : Nat} {rest : List Nat} (hr : r < 6) (hlc : qlc P M r x) : qmove P r x n rest M = qmv P (decide (M.1 67 = 1 ∧ M.1 69 = 1 ∧ M.1 (144 + r) = 1 ∧ M.1 (74 + (4 * r + x)) = 0)) r x n rest M := by
  have hx : x < 4 := by have := hlc.2; have := qns_le hI.1.1 hI.1.2.1 r; omega
  have hc : (M.1 67 = 1 ∧ M.1 69 = 1 ∧ qcnt P M r ≠ 0 ∧ M.1 (74 + (4 * r + x)) = 0) ↔ (M.1 67 = 1 ∧ M.1 69 = 1 ∧ M.1 (144 + r) = 1 ∧ M.1 (74 + (4 * r + x)) = 0) := by
    constructor
    · rintro ⟨a, b, c, d⟩
      refine ⟨a, b, ?_, d⟩
      have := qcnt_cut hI a b hr hlc.1
      rcases (hI.1.2.2.2.2.2.1 a).1.2.2.2.1 r hr with q | q
      · exact absurd (this.mpr q) c
      · exact q
    · rintro ⟨a, b, c, d⟩
      refine ⟨a, b, ?_, d⟩
      have := qcnt_cut hI a b hr hlc.1
      intro q
      have := this.mp q
      omega
  unfold qmove
  congr 1
  exact decide_eq_decide.mpr hc
theorem qI_src {P : qP} {M : qM} (hI : qI0 P M) (h67 : M.1 67 = 1) {r x : Nat} (hr : r < 6) (hx : x < 4) (hlc : qlc P M r x) (hB : M.2.2 (4 * r + x) ≠ -1) : ¬ qhid M ∧ M.1 (74 + (4 * r + x)) = 0 := by
  obtain ⟨e1, e3, e4⟩ := (hI.2.2.2.2.2.1 h67).2.1
  obtain ⟨src1, f0⟩ := (e1 r x hr hx hlc).2.1.mp hB
  refine ⟨fun h => ?_, f0⟩
  obtain ⟨a1, a2, a3⟩ := e3 h
  unfold qsrc at src1
  split at src1
  · rw [a1 x hx] at src1; cases src1
  · rw [a3 x (by omega)] at src1; cases src1
theorem qW_other {P : qP} {M N : qM} {r : Nat} (hW : qW P M) (h1 : N.1 1 = M.1 1) (h69 : N.1 69 = M.1 69) (ho : ∀ t, t < 6 → t ≠ r → N.1 (144 + t) = M.1 (144 + t) ∧ ∀ x, x < 4 → N.1 (74 + (4 * t + x)) = M.1 (74 + (4 * t + x))) (hq : ∀ t, qns P M t ≤ 4)
    (hr : (N.1 69 = 1 → N.1 (144 + r) = 1 → ∃ x, x < qns P N r ∧ N.1 (74 + (4 * r + x)) = 1) ∧ (N.1 69 = 0 → (∀ x, x < qns P N r → N.1 (74 + (4 * r + x)) = 1) → N.1 (144 + r) = 1)) : qW P N := by
  intro t ht hl
  by_cases e : t = r
  · subst e; exact hr
  · obtain ⟨o1, o2⟩ := ho t ht e
    rw [qlr_eq h1] at hl
    obtain ⟨a, b⟩ := hW t ht hl
    have := hq t
    rw [qns_eq h1, h69, o1]
    refine ⟨fun u v => ?_, fun u v => b u (fun x hx => ?_)⟩
    · obtain ⟨x, hx, hx2⟩ := a u v
      exact ⟨x, hx, by rw [o2 x (by omega)]; exact hx2⟩
    · have := v x hx
      rw [o2 x (by omega)] at this
      exact this
/-- what a cut changes of the barriers' accounts -/
theorem qcutb_facts {P : qP} {M : qM} {r : Nat} (hr : r < 6) : (∀ k, (k < 43 ∨ 67 ≤ k ∧ k < 102 ∨ 118 ≤ k ∧ k < 144) → (qcutb P r M).1 k = M.1 k) ∧ (∀ t, t ≠ r → (qcutb P r M).1 (144 + t) = M.1 (144 + t)) ∧ (qcutb P r M).1 (144 + r) = 1 ∧ (∀ c, c < 24 ∨ 28 ≤ c → (qcutb P r M).2.1 c = M.2.1 c) ∧ (∀ c, (c < 16 ∨ 4 ≤ r) → (qcutb P r M).2.2 c = M.2.2 c) := by
  by_cases e : r < 4
  · refine ⟨fun k hk => qcutA_S e (by omega) (by omega) (by omega), fun t ht => qcutA_S e (by omega) (by omega) (by omega), qcutA_144 e, fun c hc => by rw [qcutA_L e], fun c hc => ?_⟩
    rw [qcutA_B e, if_neg (by omega)]
  · obtain ⟨j, rfl⟩ : ∃ j, r = 4 + j := ⟨r - 4, by omega⟩
    refine ⟨fun k hk => qcutB_S (by omega) (by omega), fun t ht => qcutB_S (by omega) (by omega), ?_, fun c hc => qcutB_L (by omega) (by omega), fun c hc => by rw [qcutB_B]⟩
    rw [show 144 + (4 + j) = 148 + j from by omega]
    exact qcutB_144 (by omega)
theorem qI0_cut {P : qP} {M : qM} {r : Nat} (hI : qI0 P M) (h67 : M.1 67 = 1) (hno : ¬ qhid M) (hr : r < 6) (hl : qlr P M r) (h144 : M.1 (144 + r) = 0) (hal : M.1 69 = 0 → ∀ x, x < qns P M r → M.1 (74 + (4 * r + x)) = 1) : qI0 P (qcutb P r M) := by
  unfold qlr at hl
  by_cases e : r < 4
  · rw [if_pos e] at hl
    exact qI_cutA hI h67 hno e hl h144 hal
  · rw [if_neg e] at hl
    obtain ⟨j, rfl⟩ : ∃ j, r = 4 + j := ⟨r - 4, by omega⟩
    refine qI_cutB hI h67 hno (by omega) (by rw [← h144, show 144 + (4 + j) = 148 + j from by omega]) (fun h x hx => hal h x ?_)
    unfold qns
    rw [if_neg e]
    exact hx
theorem qover_eq {P : qP} {M : qM} {r x : Nat} (hI : qI P M) (h67 : M.1 67 = 1) (h69 : M.1 69 = 1) (hr : r < 6) (hlc : qlc P M r x) (hB : M.2.2 (4 * r + x) ≠ -1) :
    qover P r x M = qkeep r x (qup M (4 * r + x)) 0 (if qcnt P M r = 0 then qcutb P r M else M) := by
  have hx : x < 4 := by have := hlc.2; have := qns_le hI.1.1 hI.1.2.1 r; omega
  obtain ⟨hO, ⟨e1, e3, e4⟩, -⟩ := hI.1.2.2.2.2.2.1 h67
  have hbl : ∀ y, y < 4 → M.1 (43 + (4 * r + y)) = 0 := by
    intro y hy
    by_cases hl : qlc P M r y
    · exact ((e1 r y hr hy hl).2.2.2.2.1 h69).1
    · exact (hI.1.2.2.2.2.2.2.1 r y hr hy hl).2
  have hcut : (if qcnt P M r = 0 then qcutb P r M else M) = (if qcnt P M r = 0 then qcut P r M else M) := by
    split
    · unfold qcutb
      refine Prod.ext ?_ rfl
      funext k
      dsimp only
      split
      · rename_i hk
        have hb0 := hbl (k - (43 + 4 * r)) (by omega)
        rw [show 43 + (4 * r + (k - (43 + 4 * r))) = k from by omega] at hb0
        unfold qcut
        split
        · dsimp only
          rw [if_neg (by omega), if_neg (by omega)]; exact hb0.symm
        · dsimp only; rw [qu_ne (by omega)]; exact hb0.symm
      · rfl
    · rfl
  rw [hcut]
  unfold qover qkeep
  dsimp only
  have hL : (if qcnt P M r = 0 then qcut P r M else M).1 (43 + (4 * r + x)) = 0 := by
    split
    · unfold qcut
      split
      · dsimp only
        rw [if_neg (by omega), if_neg (by omega)]; exact hbl x hx
      · dsimp only; rw [qu_ne (by omega)]; exact hbl x hx
    · exact hbl x hx
  refine Prod.ext ?_ (Prod.ext ?_ rfl)
  · funext k
    dsimp only
    by_cases e : k = 43 + (4 * r + x)
    · subst e; rw [qu_at, qu_ne (by omega)]; exact hL
    · rw [qu_ne e]
  · dsimp only
    unfold qup
    rw [if_neg hB]
theorem qI_over {P : qP} {M : qM} {r x : Nat} (hI : qI P M) (h67 : M.1 67 = 1) (h69 : M.1 69 = 1) (hr : r < 6) (hlc : qlc P M r x) (hB : M.2.2 (4 * r + x) ≠ -1) : qI P (qover P r x M) := by
  have hns := qns_le hI.1.1 hI.1.2.1
  have hx : x < 4 := by have := hlc.2; have := (hns r).1; omega
  obtain ⟨hno, f0⟩ := qI_src hI.1 h67 hr hx hlc hB
  rw [qover_eq hI h67 h69 hr hlc hB]
  have hcc := qcnt_cut hI h67 h69 hr hlc.1
  have hO := (hI.1.2.2.2.2.2.1 h67).1
  obtain ⟨q1, q2, q3, q4, q5⟩ := qcutb_facts (P := P) (M := M) hr
  have key : ∃ N : qM, (if qcnt P M r = 0 then qcutb P r M else M) = N ∧ qI0 P N ∧ N.1 67 = 1 ∧ N.1 69 = 1 ∧ N.1 1 = M.1 1 ∧ N.1 (144 + r) = 1 ∧ N.2.2 (4 * r + x) = M.2.2 (4 * r + x) ∧ N.2.1 (4 * r + x) = M.2.1 (4 * r + x) ∧ (∀ t, t ≠ r → N.1 (144 + t) = M.1 (144 + t)) ∧ ∀ c, c < 24 → N.1 (74 + c) = M.1 (74 + c) := by
    by_cases h : qcnt P M r = 0
    · refine ⟨_, if_pos h, qI0_cut hI.1 h67 hno hr hlc.1 (hcc.mp h) (fun q => by omega), ?_, ?_, ?_, q3, q5 _ (by omega), q4 _ (by omega), q2, fun c hc => q1 _ (by omega)⟩
      · rw [q1 _ (by omega)]; exact h67
      · rw [q1 _ (by omega)]; exact h69
      · rw [q1 _ (by omega)]
    · refine ⟨_, if_neg h, hI.1, h67, h69, rfl, ?_, rfl, rfl, fun _ _ => rfl, fun _ _ => rfl⟩
      rcases hO.2.2.2.1 r hr with q | q
      · exact absurd (hcc.mpr q) h
      · exact q
  obtain ⟨N, hN, n1, n2, n3, n4, n5, n6, n7, n8, n9⟩ := key
  rw [hN]
  have hlc2 : qlc P N r x := by rw [qlc_eq n4]; exact hlc
  have hup : qup M (4 * r + x) = qup N (4 * r + x) := by unfold qup; rw [n6, n7]
  refine ⟨qI_keep n1 n2 hr hx hlc2 (by rw [n6]; exact hB) hup (Or.inl ⟨n3, rfl, n5⟩), fun _ => ?_⟩
  refine qW_other (r := r) (hI.2 h67) ?_ ?_ (fun t ht hne => ⟨?_, fun y hy => ?_⟩) (fun t => (hns t).1) ⟨fun _ _ => ⟨x, ?_, qkeep_74⟩, fun q => ?_⟩
  · rw [qkeep_S (by omega) (by omega)]; exact n4
  · rw [qkeep_S (by omega) (by omega)]; omega
  · rw [qkeep_S (by omega) (by omega)]; exact n8 t hne
  · rw [qkeep_S (by omega) (by omega)]; exact n9 _ (by omega)
  · rw [qns_eq (M := N) (qkeep_S (by omega) (by omega))]; exact hlc2.2
  · rw [qkeep_S (by omega) (by omega)] at q; omega
theorem qalign_eq {P : qP} {M : qM} {r x : Nat} : qalign P r x M = if qcnt P (qkeep r x [] 1 M) r = qns P M r then qcutb P r (qkeep r x [] 1 M) else qkeep r x [] 1 M := by
  have e : qkeep r x [] 1 M = (qu (qu M.1 (74 + (4 * r + x)) 1) (43 + (4 * r + x)) 1, M.2.1, qu M.2.2 (4 * r + x) (-1)) := by
    unfold qkeep
    refine Prod.ext rfl (Prod.ext ?_ rfl)
    funext d
    dsimp only
    by_cases e : d = 30 + (4 * r + x)
    · subst e; rw [qu_at, List.append_nil]
    · rw [qu_ne e]
  rw [e]
  rfl
theorem qI_align {P : qP} {M : qM} {r x : Nat} (hI : qI P M) (h67 : M.1 67 = 1) (h69 : M.1 69 = 0) (hr : r < 6) (hlc : qlc P M r x) (hB : M.2.2 (4 * r + x) = 0) : qI P (qalign P r x M) := by
  have hns := qns_le hI.1.1 hI.1.2.1
  have hx : x < 4 := by have := hlc.2; have := (hns r).1; omega
  obtain ⟨hno, f0⟩ := qI_src hI.1 h67 hr hx hlc (by omega)
  have hO := (hI.1.2.2.2.2.2.1 h67).1
  have hup : qup M (4 * r + x) = [] := by
    unfold qup
    rw [hB, if_neg (by omega)]
    rfl
  have k0 := qI_keep (l := []) (b := 1) hI.1 h67 hr hx hlc (by omega) hup.symm (Or.inr ⟨h69, rfl, rfl⟩)
  have e1 : (qkeep r x [] 1 M).1 1 = M.1 1 := qkeep_S (by omega) (by omega)
  have e67 : (qkeep r x [] 1 M).1 67 = 1 := by rw [qkeep_S (by omega) (by omega)]; exact h67
  have e69 : (qkeep r x [] 1 M).1 69 = 0 := by rw [qkeep_S (by omega) (by omega)]; exact h69
  have h144 : (qkeep r x [] 1 M).1 (144 + r) = 0 := by
    rw [qkeep_S (by omega) (by omega)]
    rcases hO.2.2.2.1 r hr with q | q
    · exact q
    · have := (((hI.1.2.2.2.2.2.1 h67).2.1.1 r x hr hx hlc).2.2.2.2.2 h69).2.2 q; omega
  have hlr : qlr P (qkeep r x [] 1 M) r := by rw [qlr_eq e1]; exact hlc.1
  have hno2 : ¬ qhid (qkeep r x [] 1 M) := by unfold qhid; rw [qkeep_S (by omega) (by omega), qkeep_S (by omega) (by omega)]; exact hno
  obtain ⟨c1, c2, c3, c4⟩ := qcnt_eq k0 e67 hr
  rw [qalign_eq, ← qns_eq e1 r]
  by_cases h : qcnt P (qkeep r x [] 1 M) r = qns P (qkeep r x [] 1 M) r
  · rw [if_pos h]
    obtain ⟨q1, q2, q3, q4, q5⟩ := qcutb_facts (P := P) (M := qkeep r x [] 1 M) hr
    refine ⟨qI0_cut k0 e67 hno2 hr hlr h144 (fun _ => c4.mp h), fun _ => ?_⟩
    refine qW_other (r := r) (hI.2 h67) ?_ ?_ (fun t ht hne => ⟨?_, fun y hy => ?_⟩) (fun t => (hns t).1) ⟨fun q => ?_, fun _ _ => q3⟩
    · rw [q1 _ (by omega)]; exact e1
    · rw [q1 _ (by omega)]; omega
    · rw [q2 t hne, qkeep_S (by omega) (by omega)]
    · rw [q1 _ (by omega), qkeep_S (by omega) (by omega)]
    · rw [q1 _ (by omega)] at q; omega
  · rw [if_neg h]
    refine ⟨k0, fun _ => ?_⟩
    refine qW_other (r := r) (hI.2 h67) e1 (by omega) (fun t ht hne => ⟨?_, fun y hy => ?_⟩) (fun t => (hns t).1) ⟨fun q => by omega, fun _ q => absurd (c4.mpr q) h⟩
    · rw [qkeep_S (by omega) (by omega)]
    · rw [qkeep_S (by omega) (by omega)]
