/-! Showing. -/
theorem qshow_S {P : qP} {M : qM} {k : Nat} (h : k ≠ 123) : (qshow P M).1 k = M.1 k := by
  unfold qshow
  split
  · exact qu_ne h
  · rfl
theorem qshow_B {P : qP} {M : qM} {c : Nat} : (qshow P M).2.2 c = M.2.2 c := by
  unfold qshow
  split <;> rfl
theorem qshow_L {P : qP} {M : qM} {c : Nat} (h : c < 26 ∨ 30 ≤ c) (hP : qPok P) : (qshow P M).2.1 c = M.2.1 c := by
  have := hP.2.2.2.1
  unfold qshow
  split
  · exact (if_neg (by omega)).trans (if_neg (by omega))
  · rfl
theorem qshow_hid {P : qP} {M : qM} (h : M.1 123 = 0 ∨ M.1 123 = 1) : ¬ qhid (qshow P M) := by
  unfold qshow
  split
  · intro h2
    have : (1 : Int) = 0 := (qu_at M.1 123 1).symm.trans h2.2
    cases this
  · assumption
theorem qshow_28 {P : qP} {M : qM} (hP : qPok P) (h : qhid M) {j : Nat} (hj : j < P.2.1) : (qshow P M).2.1 (28 + j) = M.2.1 (28 + j) ++ M.2.1 (26 + j) := by
  have := hP.2.2.2.1
  unfold qshow
  rw [if_pos h]
  refine (if_pos (by omega)).trans ?_
  rw [show 28 + j - 2 = 26 + j from by omega]
theorem qshow_26 {P : qP} {M : qM} (hP : qPok P) (h : qhid M) {j : Nat} (hj : j < P.2.1) : (qshow P M).2.1 (26 + j) = [] := by
  have := hP.2.2.2.1
  unfold qshow
  rw [if_pos h]
  exact (if_neg (by omega)).trans (if_pos (by omega))
theorem qshow_no {P : qP} {M : qM} (h : ¬ qhid M) : qshow P M = M := if_neg h
theorem qI_show {P : qP} {M : qM} (hI : qI P M) : qI P (qshow P M) := by
  by_cases hh : qhid M
  case neg => rw [qshow_no hh]; exact hI
  obtain ⟨⟨hP, hN, hV, hFG, hZ, hOn, hX, hC, hC2⟩, hW⟩ := hI
  have h1 : (qshow P M).1 1 = M.1 1 := qshow_S (by omega)
  have hm := qN_many hN
  have hk := qix hP hN
  have hno : ¬ qhid (qshow P M) := qshow_hid hN.2.2.2.2.2.2.2.2.2.1
  have h26 : ∀ j, j < 2 → (qshow P M).2.1 (26 + j) = [] := by
    intro j hj
    by_cases h : j < P.2.1
    · exact qshow_26 hP hh h
    · unfold qshow
      rw [if_pos hh]
      refine (if_neg (by omega)).trans ((if_neg (by omega)).trans (qV_none hP hN hV (by omega) (by omega) (by omega)))
  refine ⟨⟨hP, ?_, ?_, fun k hk16 => ⟨?_, ?_⟩, ?_, fun h67 => ?_, ?_, ?_, ?_⟩, fun h67 r hr hl => ?_⟩
  · obtain ⟨a1, a2, a3, a4, a5, a6, a7, a8, a9, a10, a11, a12, a13, a14⟩ := hN
    have e : (qshow P M).1 123 = 1 := by unfold qshow; rw [if_pos hh]; exact qu_at M.1 123 1
    refine ⟨?_, ?_, ?_, ?_, ?_, ?_, ?_, ?_, ?_, Or.inr e, ?_, ?_, ?_, ?_⟩
    · rw [qshow_S (by omega)]; exact a1
    · rw [qshow_S (by omega)]; exact a2
    · rw [qshow_S (by omega)]; exact a3
    · rw [qshow_S (by omega)]; exact a4
    · intro s hs; rw [qshow_S (by omega)]; exact a5 s hs
    · intro s hs; rw [qshow_S (by omega)]; exact a6 s hs
    · intro s hs; rw [qshow_S (by omega)]; exact a7 s hs
    · rw [qshow_S (by omega)]; exact a8
    · rw [qshow_S (by omega)]; exact a9
    · rw [qshow_S (by omega)]; exact a11
    · intro s hs; rw [qlr_eq h1, qns_eq h1, qshow_S (by omega)]; exact a12 s hs
    · intro s hs; rw [qshow_S (by omega)]; exact a13 s hs
    · intro s hs; rw [qshow_S (by omega)]; exact a14 s hs
  · intro c n hc hn
    rw [qmany_eq h1]
    by_cases h2 : c < 26 ∨ 30 ≤ c
    · rw [qshow_L h2 hP] at hn; exact hV c n hc hn
    · by_cases h3 : c < 28
      · have := h26 (c - 26) (by omega)
        rw [show 26 + (c - 26) = c from by omega] at this
        rw [this] at hn; cases hn
      · by_cases h4 : c - 28 < P.2.1
        · have := qshow_28 hP hh h4
          rw [show 28 + (c - 28) = c from by omega, show 26 + (c - 28) = c - 2 from by omega] at this
          rw [this, List.mem_append] at hn
          rcases hn with hn | hn
          · exact hV c n hc hn
          · have h5 := hV (c - 2) n (by omega) hn
            unfold qch at h5 ⊢
            rw [if_pos (by omega)] at h5 ⊢
            exact ⟨h5.1, by omega, by omega, fun _ => by have := h5.2.2.2 (by omega); omega⟩
        · have e : (qshow P M).2.1 c = M.2.1 c := by
            unfold qshow
            rw [if_pos hh]
            exact (if_neg (by omega)).trans (if_neg (by omega))
          rw [e] at hn; exact hV c n hc hn
  · obtain ⟨k1, k2, k3, k4, k5, k6⟩ := hk k
    have hF := (hFG k hk16).1
    unfold qIF qseq at hF ⊢
    rw [qmany_eq h1, qshow_28 hP hh k1, qshow_26 hP hh k1]
    simp (disch := first | omega | assumption) only [qshow_S, qshow_L]
    simp only [qf_app, qf_nil, List.append_nil, List.append_assoc] at hF ⊢
    exact hF
  · obtain ⟨k1, k2, k3, k4, k5, k6⟩ := hk k
    have hG := (hFG k hk16).2
    refine qIG_congr hP hN h1 ?_ (qshow_S (by omega)) (qshow_S (by omega)) (fun c _ _ => by rw [qshow_L (by omega) hP]) hG
    unfold qbase
    rw [if_pos hh, if_neg hno, qshow_28 hP hh k1, qf_app]
  · intro h67
    obtain ⟨z1, -⟩ := hZ ((qshow_S (by omega)).symm.trans h67)
    refine ⟨fun c hc => ?_, fun _ => h26⟩
    rw [qshow_B, qshow_S (by omega)]; exact z1 c hc
  · obtain ⟨hO, hE, hH⟩ := hOn ((qshow_S (by omega)).symm.trans h67)
    refine ⟨?_, ?_, fun k hk16 => ?_⟩
    · obtain ⟨o1, o2, o3, o4, o5, o6, o7, o8, o9, o10⟩ := hO
      refine ⟨?_, ?_, ?_, ?_, ?_, ?_, ?_, ?_, ?_, ?_⟩
      · rw [qshow_S (by omega)]; exact o1
      · intro s hs; rw [qshow_S (by omega)]; exact o2 s hs
      · intro s hs; rw [qshow_S (by omega)]; exact o3 s hs
      · intro s hs; rw [qshow_S (by omega)]; exact o4 s hs
      · intro s hs; rw [qshow_S (by omega)]; exact o5 s hs
      · rw [qshow_S (by omega)]; exact o6
      · rw [qshow_S (by omega), qshow_S (by omega)]; exact o7
      · intro s hs; rw [qshow_S (by omega)]; exact o8 s hs
      · intro r x hr hx; rw [qlc_eq h1, qshow_S (by omega)]; exact o9 r x hr hx
      · intro s hs; rw [qlr_eq h1, qshow_S (by omega)]; exact o10 s hs
    · obtain ⟨e1, e3, e4⟩ := hE
      obtain ⟨f1, f2, f3⟩ := e3 hh
      refine ⟨fun r x hr hx hlc => ?_, fun h => absurd h hno, fun _ j hj _ => h26 j hj⟩
      · rw [qlc_eq h1] at hlc
        have := e1 r x hr hx hlc
        have hs : qsrc (qshow P M) r x = qsrc M r x := by unfold qsrc; split <;> exact qshow_S (by omega)
        rw [hs]
        simp (disch := first | omega | assumption) only [qshow_S, qshow_L, qshow_B]
        exact this
    · obtain ⟨k1, k2, k3, k4, k5, k6⟩ := hk k
      have hH := hH k hk16
      unfold qIH qpre qpri qup at hH ⊢
      rw [qmany_eq h1, qshow_28 hP hh k1, qshow_26 hP hh k1]
      simp (disch := first | omega | assumption) only [qshow_S, qshow_L, qshow_B]
      simp only [qf_app, qf_nil, List.append_nil, List.append_assoc] at hH ⊢
      exact hH
  · intro r x hr hx h
    rw [qlc_eq h1] at h
    rw [qshow_B, qshow_S (by omega)]
    exact hX r x hr hx h
  · intro h
    rw [qshow_S (by omega)] at h
    have := hh.1
    omega
  · intro h
    rw [qshow_S (by omega)] at h ⊢
    exact hC2 h
  · rw [qlr_eq h1] at hl
    have h4 := qns_le hP hN r
    obtain ⟨a, b⟩ := hW ((qshow_S (by omega)).symm.trans h67) r hr hl
    rw [qns_eq h1]
    refine ⟨fun u v => ?_, fun u v => ?_⟩
    · rw [qshow_S (by omega)] at u v
      obtain ⟨x, hx, hx2⟩ := a u v
      exact ⟨x, hx, by rw [qshow_S (by omega)]; exact hx2⟩
    · rw [qshow_S (by omega)] at u ⊢
      refine b u (fun x hx => ?_)
      have := v x hx
      rw [qshow_S (by omega)] at this
      exact this
