/-! A sink cuts: j is its number. -/
theorem qcutB_S {P : qP} {j k : Nat} {M : qM} (h : k < 59 + 4 * j ∨ 63 + 4 * j ≤ k) (h3 : k ≠ 148 + j) : (qcutb P (4 + j) M).1 k = M.1 k := by
  unfold qcutb qcut
  rw [if_neg (by omega)]
  dsimp only
  rw [if_neg (by omega), qu_ne (by omega)]
theorem qcutB_bl {P : qP} {j k : Nat} {M : qM} (h : 59 + 4 * j ≤ k ∧ k < 63 + 4 * j) : (qcutb P (4 + j) M).1 k = 0 := if_pos (by omega)
theorem qcutB_144 {P : qP} {j : Nat} {M : qM} (hj : j < 2) : (qcutb P (4 + j) M).1 (148 + j) = 1 := by
  unfold qcutb qcut
  rw [if_neg (by omega)]
  dsimp only
  rw [if_neg (by omega), show 148 + j = 144 + (4 + j) from by omega, qu_at]
theorem qcutB_L {P : qP} {j c : Nat} {M : qM} (h : c ≠ 24 + j) (h2 : c ≠ 26 + j) : (qcutb P (4 + j) M).2.1 c = M.2.1 c := by
  unfold qcutb qcut
  rw [if_neg (by omega)]
  dsimp only
  rw [qu_ne (by omega), qu_ne (by omega)]
theorem qcutB_24 {P : qP} {j : Nat} {M : qM} : (qcutb P (4 + j) M).2.1 (24 + j) = [] := by
  unfold qcutb qcut
  rw [if_neg (by omega)]
  dsimp only
  rw [show 24 + j = 20 + (4 + j) from by omega, qu_at]
theorem qcutB_26 {P : qP} {j : Nat} {M : qM} : (qcutb P (4 + j) M).2.1 (26 + j) = M.2.1 (26 + j) ++ M.2.1 (24 + j) := by
  unfold qcutb qcut
  rw [if_neg (by omega)]
  dsimp only
  rw [qu_ne (by omega), show 26 + j = 22 + (4 + j) from by omega, qu_at, show 24 + j = 20 + (4 + j) from by omega]
theorem qcutB_B {P : qP} {j : Nat} {M : qM} : (qcutb P (4 + j) M).2.2 = M.2.2 := by
  unfold qcutb qcut
  rw [if_neg (by omega)]
theorem qI_cutB {P : qP} {M : qM} {j : Nat} (hI : qI0 P M) (h67 : M.1 67 = 1) (hno : ¬ qhid M) (hj : j < P.2.1) (h144 : M.1 (148 + j) = 0) (hal : M.1 69 = 0 → ∀ x, x < qmany M → M.1 (74 + (4 * (4 + j) + x)) = 1) : qI0 P (qcutb P (4 + j) M) := by
  obtain ⟨hP, hN, hV, hFG, hZ, hOn, hX, hC, hC2⟩ := hI
  obtain ⟨hO, hE, hH⟩ := hOn h67
  have h1 : (qcutb P (4 + j) M).1 1 = M.1 1 := qcutB_S (by omega) (by omega)
  have hk := qix hP hN
  have hm4 := qN_many hN
  have hnk := hP.2.2.2.1
  have hhid : qhid (qcutb P (4 + j) M) ↔ qhid M := by
    unfold qhid
    rw [qcutB_S (by omega) (by omega), qcutB_S (by omega) (by omega)]
  have hb01 : ∀ k, 43 ≤ k → k < 67 → (qcutb P (4 + j) M).1 k = 0 ∨ (qcutb P (4 + j) M).1 k = M.1 k := by
    intro k hk1 hk2
    by_cases h : 59 + 4 * j ≤ k ∧ k < 63 + 4 * j
    · exact Or.inl (qcutB_bl h)
    · exact Or.inr (qcutB_S (by omega) (by omega))
  refine ⟨hP, ?_, ?_, fun k hk16 => ⟨?_, ?_⟩, ?_, fun h67' => ⟨?_, ?_, fun k hk16 => ?_⟩, ?_, ?_, ?_⟩
  · obtain ⟨a1, a2, a3, a4, a5, a6, a7, a8, a9, a10, a11, a12, a13, a14⟩ := hN
    refine ⟨?_, ?_, ?_, ?_, ?_, ?_, ?_, ?_, ?_, ?_, ?_, ?_, ?_, ?_⟩
    · rw [h1]; exact a1
    · rw [qcutB_S (by omega) (by omega)]; exact a2
    · rw [qcutB_S (by omega) (by omega)]; exact a3
    · rw [qcutB_S (by omega) (by omega)]; exact a4
    · intro s hs; rw [qcutB_S (by omega) (by omega)]; exact a5 s hs
    · intro s hs; rw [qcutB_S (by omega) (by omega)]; exact a6 s hs
    · intro s hs; rw [qcutB_S (by omega) (by omega)]; exact a7 s hs
    · rw [qcutB_S (by omega) (by omega)]; exact a8
    · rw [qcutB_S (by omega) (by omega)]; exact a9
    · rw [qcutB_S (by omega) (by omega)]; exact a10
    · rw [qcutB_S (by omega) (by omega)]; exact a11
    · intro s hs; rw [qlr_eq h1, qns_eq h1, qcutB_S (by omega) (by omega)]; exact a12 s hs
    · intro s hs; rw [qcutB_S (by omega) (by omega)]; exact a13 s hs
    · intro s hs
      rcases hb01 (43 + s) (by omega) (by omega) with h | h
      · exact Or.inl h
      · rw [h]; exact a14 s hs
  · intro d m hd hmm
    rw [qmany_eq h1]
    by_cases d1 : d = 24 + j
    · subst d1; rw [qcutB_24] at hmm; cases hmm
    · by_cases d2 : d = 26 + j
      · subst d2
        rw [qcutB_26, List.mem_append] at hmm
        rcases hmm with h | h
        · exact hV _ m hd h
        · have h5 := hV _ m (by omega) h
          unfold qch at h5 ⊢
          rw [if_pos (by omega)] at h5 ⊢
          exact ⟨h5.1, by omega, by omega, fun _ => by have := h5.2.2.2 (by omega); omega⟩
      · rw [qcutB_L d1 d2] at hmm; exact hV d m hd hmm
  · have hF := (hFG k hk16).1
    obtain ⟨k1, k2, k3, k4, k5, k6⟩ := hk k
    unfold qIF qseq at hF ⊢
    rw [qmany_eq h1, qcutB_S (k := 13 + k % 4) (by omega) (by omega), qcutB_S (k := 17 + k) (by omega) (by omega), qcutB_L (c := 28 + qsk P k) (by omega) (by omega), qcutB_L (c := qco P k (qmany M)) (by omega) (by omega), qcutB_L (c := qci k (qmany M)) (by omega) (by omega)]
    by_cases e : qsk P k = j
    · rw [e, qcutB_26, qcutB_24]
      rw [e] at hF
      simp only [qf_app, qf_nil, List.append_nil, List.append_assoc] at hF ⊢
      exact hF
    · rw [qcutB_L (by omega) (by omega), qcutB_L (by omega) (by omega)]; exact hF
  · refine qIG_congr hP hN h1 ?_ (qcutB_S (by omega) (by omega)) (qcutB_S (by omega) (by omega)) (fun d h54 hd => by rw [qcutB_L (by omega) (by omega)]) (hFG k hk16).2
    have := (hk k).2.1
    unfold qbase
    rw [if_neg hno, if_neg (fun h => hno (hhid.mp h)), qcutB_L (by omega) (by omega)]
  · intro h
    rw [qcutB_S (by omega) (by omega)] at h
    omega
  · obtain ⟨o1, o2, o3, o4, o5, o6, o7, o8, o9, o10⟩ := hO
    refine ⟨?_, ?_, ?_, ?_, ?_, ?_, ?_, ?_, ?_, ?_⟩
    · rw [qcutB_S (by omega) (by omega)]; exact o1
    · intro s hs; rw [qcutB_S (by omega) (by omega)]; exact o2 s hs
    · intro s hs; rw [qcutB_S (by omega) (by omega)]; exact o3 s hs
    · intro t ht
      by_cases e : t = 4 + j
      · subst e; rw [show 144 + (4 + j) = 148 + j from by omega]; exact Or.inr (qcutB_144 (by omega))
      · rw [qcutB_S (by omega) (by omega)]; exact o4 t ht
    · intro s hs; rw [qcutB_S (by omega) (by omega)]; exact o5 s hs
    · rw [qcutB_S (by omega) (by omega)]; exact o6
    · rw [qcutB_S (by omega) (by omega), qcutB_S (by omega) (by omega)]; exact o7
    · intro s hs; rw [qcutB_S (by omega) (by omega)]; exact o8 s hs
    · intro t x ht hx; rw [qlc_eq h1, qcutB_S (by omega) (by omega)]; exact o9 t x ht hx
    · intro t ht h
      rw [qlr_eq h1]
      by_cases e : t = 4 + j
      · subst e; unfold qlr; rw [if_neg (by omega)]; omega
      · rw [qcutB_S (by omega) (by omega)] at h; exact o10 t ht h
  · obtain ⟨e1, e3, e4⟩ := hE
    refine ⟨fun t x ht hx hlc => ?_, fun h => absurd (hhid.mp h) hno, fun h i hi hh => ?_⟩
    · rw [qlc_eq h1] at hlc
      obtain ⟨g1, g2, g3, g4, g5, g6⟩ := e1 t x ht hx hlc
      have es : qsrc (qcutb P (4 + j) M) t x = qsrc M t x := by
        unfold qsrc
        split <;> exact qcutB_S (by omega) (by omega)
      rw [es, qcutB_B, qcutB_L (c := 4 * t + x) (by omega) (by omega), qcutB_L (c := 30 + (4 * t + x)) (by omega) (by omega), qcutB_S (k := 74 + (4 * t + x)) (by omega) (by omega), qcutB_S (k := 69) (by omega) (by omega)]
      by_cases et : t = 4 + j
      · subst et
        have hq : x < qmany M := by have := hlc.2; unfold qns at this; rw [if_neg (by omega)] at this; exact this
        rw [show 144 + (4 + j) = 148 + j from by omega, qcutB_144 (by omega), qcutB_bl (by omega)]
        refine ⟨g1, g2, g3, fun h => by omega, fun _ => ⟨rfl, fun _ => rfl⟩, fun h => ⟨?_, (g6 h).2.1, fun _ => hal h x hq⟩⟩
        constructor
        · intro h; omega
        · intro h; have := h.2; omega
      · rw [qcutB_S (k := 144 + t) (by omega) (by omega), qcutB_S (k := 43 + (4 * t + x)) (by omega) (by omega)]
        exact ⟨g1, g2, g3, g4, g5, g6⟩
    · by_cases e : i = j
      · subst e
        rw [qcutB_144 (by omega)] at hh; cases hh
      · rw [qcutB_S (by omega) (by omega)] at hh
        rw [qcutB_L (by omega) (by omega)]
        exact e4 hno i hi hh
  · obtain ⟨k1, k2, k3, k4, k5, k6⟩ := hk k
    have hH := hH k hk16
    obtain ⟨e1, e3, e4⟩ := hE
    unfold qIH at hH ⊢
    have u1 : qpre P (qcutb P (4 + j) M) k = qpre P M k := by
      unfold qpre qup
      rw [qmany_eq h1, qcutB_B, qcutB_L (c := 28 + qsk P k) (by omega) (by omega), qcutB_L (c := qco P k (qmany M)) (by omega) (by omega), qcutB_L (c := 30 + qco P k (qmany M)) (by omega) (by omega), qcutB_S (k := 74 + qco P k (qmany M)) (by omega) (by omega)]
      by_cases e : qsk P k = j
      · rw [e, qcutB_26, qcutB_24, qcutB_144 (by omega), if_pos rfl, h144, if_neg (show ¬ (0 : Int) = 1 from by decide)]
        simp only [qf_app, List.append_nil, List.append_assoc]
      · rw [qcutB_L (by omega) (by omega), qcutB_L (by omega) (by omega), qcutB_S (by omega) (by omega)]
    have u2 : qpri P (qcutb P (4 + j) M) k = qpri P M k := by
      unfold qpri qup
      rw [qmany_eq h1, qcutB_B, qcutB_L (c := qci k (qmany M)) (by omega) (by omega), qcutB_L (c := 30 + qci k (qmany M)) (by omega) (by omega), qcutB_S (k := 74 + qci k (qmany M)) (by omega) (by omega)]
    rw [u1, u2, qmany_eq h1, qcutB_S (k := 144 + qown k (qmany M)) (by omega) (by omega), qcutB_S (k := 102 + k) (by omega) (by omega), qcutB_S (k := 74 + qco P k (qmany M)) (by omega) (by omega), qcutB_S (k := 70 + k % 4) (by omega) (by omega), qcutB_S (k := 98 + k % 4) (by omega) (by omega), qcutB_S (k := 13 + k % 4) (by omega) (by omega), qcutB_L (c := 30 + qco P k (qmany M)) (by omega) (by omega)]
    refine ⟨hH.1, hH.2.1, ?_⟩
    by_cases e : qsk P k = j
    · intro _ _
      have hlo : qlc P M (4 + qsk P k) (qown k (qmany M)) := by
        unfold qlc qlr qns
        rw [if_neg (by omega), if_neg (by omega)]
        omega
      have g4 := (e1 (4 + qsk P k) (qown k (qmany M)) (by omega) (by omega) hlo).2.2.2.1
      rw [show 4 * (4 + qsk P k) + qown k (qmany M) = qco P k (qmany M) from by omega, show 144 + (4 + qsk P k) = 148 + qsk P k from by omega, e] at g4
      rw [e, qcutB_24, g4 h144]
    · rw [qcutB_L (by omega) (by omega), qcutB_S (by omega) (by omega)]; exact hH.2.2
  · intro t x ht hx h
    rw [qlc_eq h1] at h
    refine ⟨?_, ?_⟩
    · rw [qcutB_B]
      exact (hX t x ht hx h).1
    · rcases hb01 (43 + (4 * t + x)) (by omega) (by omega) with hh | hh
      · exact hh
      · rw [hh]; exact (hX t x ht hx h).2
  · intro h
    rw [qcutB_S (by omega) (by omega)] at h
    refine ⟨fun i hi => ?_, fun d hd => ?_⟩
    · rw [qcutB_S (by omega) (by omega)]; exact (hC h).1 i hi
    · rw [qcutB_L (by omega) (by omega)]; exact (hC h).2 d hd
  · intro h
    rw [qcutB_S (by omega) (by omega)] at h ⊢
    exact hC2 h
