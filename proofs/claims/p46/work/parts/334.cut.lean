/-! A worker, a sink cuts. -/
def qcutb (P : qP) (r : Nat) (M : qM) : qM := ((fun k => if 43 + 4 * r ≤ k ∧ k < 43 + 4 * r + 4 then 0 else (qcut P r M).1 k), (qcut P r M).2)
theorem qcutA_S {P : qP} {r k : Nat} {M : qM} (hr : r < 4) (h : k < 43 + 4 * r ∨ 43 + 4 * r + 4 ≤ k) (h2 : k < 102 ∨ 118 ≤ k) (h3 : k ≠ 144 + r) : (qcutb P r M).1 k = M.1 k := by
  unfold qcutb qcut
  rw [if_pos hr]
  dsimp only
  rw [if_neg (by omega), if_neg (by omega), if_neg h3]
theorem qcutA_bl {P : qP} {r k : Nat} {M : qM} (h : 43 + 4 * r ≤ k ∧ k < 43 + 4 * r + 4) : (qcutb P r M).1 k = 0 := if_pos h
theorem qcutA_144 {P : qP} {r : Nat} {M : qM} (hr : r < 4) : (qcutb P r M).1 (144 + r) = 1 := by
  unfold qcutb qcut
  rw [if_pos hr]
  dsimp only
  rw [if_neg (by omega), if_neg (by omega), if_pos rfl]
theorem qcutA_sum {P : qP} {r k : Nat} {M : qM} (hr : r < 4) (hk : k < 16) : (qcutb P r M).1 (102 + k) = if qown k (qmany M) = r then M.1 (17 + k) else M.1 (102 + k) := by
  unfold qcutb qcut
  rw [if_pos hr]
  dsimp only
  rw [if_neg (by omega), show 102 + k - 102 = k from by omega]
  by_cases h : qown k (qmany M) = r
  · rw [if_pos (by omega), if_pos h, show 102 + k - 85 = 17 + k from by omega]
  · rw [if_neg (by omega), if_neg (by omega), if_neg h]
theorem qcutA_L {P : qP} {r : Nat} {M : qM} (hr : r < 4) : (qcutb P r M).2.1 = M.2.1 := by
  unfold qcutb qcut
  rw [if_pos hr]
theorem qcutA_B {P : qP} {r c : Nat} {M : qM} (hr : r < 4) : (qcutb P r M).2.2 c = if 16 ≤ c ∧ c < 16 + 4 * P.2.1 ∧ c % 4 = r then ((M.2.1 c).length : Int) else M.2.2 c := by
  unfold qcutb qcut
  rw [if_pos hr]
theorem qI_cutA {P : qP} {M : qM} {r : Nat} (hI : qI0 P M) (h67 : M.1 67 = 1) (hno : ¬ qhid M) (hr : r < 4) (hm : r < qmany M) (h144 : M.1 (144 + r) = 0) (hal : M.1 69 = 0 → ∀ x, x < qns P M r → M.1 (74 + (4 * r + x)) = 1) : qI0 P (qcutb P r M) := by
  obtain ⟨hP, hN, hV, hFG, hZ, hOn, hX, hC, hC2⟩ := hI
  obtain ⟨hO, hE, hH⟩ := hOn h67
  have h1 : (qcutb P r M).1 1 = M.1 1 := qcutA_S hr (by omega) (by omega) (by omega)
  have hk := qix hP hN
  have hm4 := qN_many hN
  have hnk := hP.2.2.2.1
  have hhid : qhid (qcutb P r M) ↔ qhid M := by
    unfold qhid
    rw [qcutA_S hr (by omega) (by omega) (by omega), qcutA_S hr (by omega) (by omega) (by omega)]
  have hb01 : ∀ k, 43 ≤ k → k < 67 → (qcutb P r M).1 k = 0 ∨ (qcutb P r M).1 k = M.1 k := by
    intro k hk1 hk2
    by_cases h : 43 + 4 * r ≤ k ∧ k < 43 + 4 * r + 4
    · exact Or.inl (qcutA_bl h)
    · exact Or.inr (qcutA_S hr (by omega) (by omega) (by omega))
  refine ⟨hP, ?_, ?_, fun k hk16 => ⟨?_, ?_⟩, ?_, fun h67' => ⟨?_, ?_, fun k hk16 => ?_⟩, ?_, ?_, ?_⟩
  · obtain ⟨a1, a2, a3, a4, a5, a6, a7, a8, a9, a10, a11, a12, a13, a14⟩ := hN
    refine ⟨?_, ?_, ?_, ?_, ?_, ?_, ?_, ?_, ?_, ?_, ?_, ?_, ?_, ?_⟩
    · rw [h1]; exact a1
    · rw [qcutA_S hr (by omega) (by omega) (by omega)]; exact a2
    · rw [qcutA_S hr (by omega) (by omega) (by omega)]; exact a3
    · rw [qcutA_S hr (by omega) (by omega) (by omega)]; exact a4
    · intro s hs; rw [qcutA_S hr (by omega) (by omega) (by omega)]; exact a5 s hs
    · intro s hs; rw [qcutA_S hr (by omega) (by omega) (by omega)]; exact a6 s hs
    · intro s hs; rw [qcutA_S hr (by omega) (by omega) (by omega)]; exact a7 s hs
    · rw [qcutA_S hr (by omega) (by omega) (by omega)]; exact a8
    · rw [qcutA_S hr (by omega) (by omega) (by omega)]; exact a9
    · rw [qcutA_S hr (by omega) (by omega) (by omega)]; exact a10
    · rw [qcutA_S hr (by omega) (by omega) (by omega)]; exact a11
    · intro s hs; rw [qlr_eq h1, qns_eq h1, qcutA_S hr (by omega) (by omega) (by omega)]; exact a12 s hs
    · intro s hs; rw [qcutA_S hr (by omega) (by omega) (by omega)]; exact a13 s hs
    · intro s hs
      rcases hb01 (43 + s) (by omega) (by omega) with h | h
      · exact Or.inl h
      · rw [h]; exact a14 s hs
  · intro d m hd hmm
    rw [qmany_eq h1]
    rw [qcutA_L hr] at hmm
    exact hV d m hd hmm
  · exact qIF_congr hP hN h1 (qcutA_S hr (by omega) (by omega) (by omega)) (qcutA_S hr (by omega) (by omega) (by omega)) (fun d _ => by rw [qcutA_L hr]) (hFG k hk16).1
  · exact qIG_congr hP hN h1 (qbase_congr hP (qcutA_S hr (by omega) (by omega) (by omega)) (qcutA_S hr (by omega) (by omega) (by omega)) (fun d _ hc => by rw [qcutA_L hr])) (qcutA_S hr (by omega) (by omega) (by omega)) (qcutA_S hr (by omega) (by omega) (by omega)) (fun d h54 hd => by rw [qcutA_L hr]) (hFG k hk16).2
  · intro h
    rw [qcutA_S hr (by omega) (by omega) (by omega)] at h
    omega
  · obtain ⟨o1, o2, o3, o4, o5, o6, o7, o8, o9, o10⟩ := hO
    refine ⟨?_, ?_, ?_, ?_, ?_, ?_, ?_, ?_, ?_, ?_⟩
    · rw [qcutA_S hr (by omega) (by omega) (by omega)]; exact o1
    · intro s hs; rw [qcutA_S hr (by omega) (by omega) (by omega)]; exact o2 s hs
    · intro s hs; rw [qcutA_S hr (by omega) (by omega) (by omega)]; exact o3 s hs
    · intro t ht
      by_cases e : t = r
      · subst e; exact Or.inr (qcutA_144 hr)
      · rw [qcutA_S hr (by omega) (by omega) (by omega)]; exact o4 t ht
    · intro s hs; rw [qcutA_S hr (by omega) (by omega) (by omega)]; exact o5 s hs
    · rw [qcutA_S hr (by omega) (by omega) (by omega)]; exact o6
    · rw [qcutA_S hr (by omega) (by omega) (by omega), qcutA_S hr (by omega) (by omega) (by omega)]; exact o7
    · intro s hs; rw [qcutA_S hr (by omega) (by omega) (by omega)]; exact o8 s hs
    · intro t x ht hx; rw [qlc_eq h1, qcutA_S hr (by omega) (by omega) (by omega)]; exact o9 t x ht hx
    · intro t ht h
      rw [qlr_eq h1]
      by_cases e : t = r
      · subst e; unfold qlr; rw [if_pos hr]; exact hm
      · rw [qcutA_S hr (by omega) (by omega) (by omega)] at h; exact o10 t ht h
  · obtain ⟨e1, e3, e4⟩ := hE
    refine ⟨fun t x ht hx hlc => ?_, fun h => absurd (hhid.mp h) hno, fun h j hj hh => ?_⟩
    · rw [qlc_eq h1] at hlc
      obtain ⟨g1, g2, g3, g4, g5, g6⟩ := e1 t x ht hx hlc
      rw [qcutA_L hr, qcutA_B hr, qcutA_S (k := 74 + (4 * t + x)) hr (by omega) (by omega) (by omega), qcutA_S (k := 69) hr (by omega) (by omega) (by omega)]
      by_cases et : t = r
      · subst et
        have es : qsrc (qcutb P t M) t x = qsrc M t x := by
          unfold qsrc
          rw [if_pos hr, if_pos hr]
          exact qcutA_S hr (by omega) (by omega) (by omega)
        rw [es, if_neg (by omega), qcutA_144 hr, qcutA_bl (by omega)]
        refine ⟨g1, g2, g3, fun h => by omega, fun _ => ⟨rfl, fun _ => rfl⟩, fun h => ⟨?_, (g6 h).2.1, fun _ => hal h x hlc.2⟩⟩
        constructor
        · intro h; omega
        · intro h; have := h.2; omega
      · rw [qcutA_S (k := 144 + t) hr (by omega) (by omega) (by omega), qcutA_S (k := 43 + (4 * t + x)) hr (by omega) (by omega) (by omega)]
        by_cases hx2 : 4 ≤ t ∧ x = r
        · obtain ⟨ht4, rfl⟩ := hx2
          have hl : t - 4 < P.2.1 := by have := hlc.1; unfold qlr at this; rw [if_neg (by omega)] at this; exact this
          have es : qsrc (qcutb P x M) t x = 1 := by
            unfold qsrc
            rw [if_neg (by omega)]
            exact qcutA_144 hr
          have es0 : qsrc M t x = 0 := by
            unfold qsrc
            rw [if_neg (by omega)]
            exact h144
          have f0 : M.1 (74 + (4 * t + x)) = 0 := by
            rcases hO.2.2.1 (4 * t + x) (by omega) with h | h
            · exact h
            · have := g3 h; omega
          rw [es, if_pos (by omega)]
          exact ⟨by omega, ⟨fun _ => ⟨rfl, f0⟩, fun _ => by omega⟩, fun _ => rfl, g4, g5, g6⟩
        · have es : qsrc (qcutb P r M) t x = qsrc M t x := by
            unfold qsrc
            split <;> exact qcutA_S hr (by omega) (by omega) (by omega)
          rw [es, if_neg (by omega)]
          exact ⟨g1, g2, g3, g4, g5, g6⟩
    · rw [qcutA_S hr (by omega) (by omega) (by omega)] at hh
      rw [qcutA_L hr]
      exact e4 hno j hj hh
  · obtain ⟨k1, k2, k3, k4, k5, k6⟩ := hk k
    have hH := hH k hk16
    obtain ⟨e1, e3, e4⟩ := hE
    have hlo : qlc P M (4 + qsk P k) (qown k (qmany M)) := by
      unfold qlc qlr qns
      rw [if_neg (by omega), if_neg (by omega)]
      omega
    obtain ⟨g1, g2, g3, g4, g5, g6⟩ := e1 (4 + qsk P k) (qown k (qmany M)) (by omega) (by omega) hlo
    have eo : 4 * (4 + qsk P k) + qown k (qmany M) = qco P k (qmany M) := by omega
    rw [eo] at g1 g2 g3 g4
    have es : qsrc M (4 + qsk P k) (qown k (qmany M)) = M.1 (144 + qown k (qmany M)) := by unfold qsrc; rw [if_neg (by omega)]
    rw [es] at g2 g3
    unfold qIH at hH ⊢
    have u0 : qup (qcutb P r M) (qco P k (qmany M)) = qup M (qco P k (qmany M)) := by
      by_cases hc : qown k (qmany M) = r
      · have hb : M.2.2 (qco P k (qmany M)) = -1 := by
          apply Decidable.byContradiction
          intro h
          have := (g2.mp h).1
          rw [hc] at this
          omega
        have hb2 : (qcutb P r M).2.2 (qco P k (qmany M)) = (M.2.1 (qco P k (qmany M))).length := by
          rw [qcutA_B hr]; exact if_pos (by omega)
        unfold qup
        rw [hb2, hb, qcutA_L hr, if_neg (by omega), if_pos rfl, Int.toNat_natCast, List.take_length]
      · have hb2 : (qcutb P r M).2.2 (qco P k (qmany M)) = M.2.2 (qco P k (qmany M)) := by
          rw [qcutA_B hr]; exact if_neg (by omega)
        unfold qup
        rw [hb2, qcutA_L hr]
    have u1 : qpre P (qcutb P r M) k = qpre P M k := by
      unfold qpre
      rw [qmany_eq h1, u0, qcutA_L hr, qcutA_S (k := 148 + qsk P k) hr (by omega) (by omega) (by omega), qcutA_S (k := 74 + qco P k (qmany M)) hr (by omega) (by omega) (by omega)]
    have u2 : qpri P (qcutb P r M) k = qpri P M k := by
      have hb2 : (qcutb P r M).2.2 (qci k (qmany M)) = M.2.2 (qci k (qmany M)) := by
        rw [qcutA_B hr]; exact if_neg (by omega)
      unfold qpri qup
      rw [qmany_eq h1, hb2, qcutA_L hr, qcutA_S (k := 74 + qci k (qmany M)) hr (by omega) (by omega) (by omega)]
    rw [u1, u2, qmany_eq h1, qcutA_L hr, qcutA_S (k := 148 + qsk P k) hr (by omega) (by omega) (by omega), qcutA_S (k := 74 + qco P k (qmany M)) hr (by omega) (by omega) (by omega), qcutA_S (k := 70 + k % 4) hr (by omega) (by omega) (by omega), qcutA_S (k := 98 + k % 4) hr (by omega) (by omega) (by omega), qcutA_S (k := 13 + k % 4) hr (by omega) (by omega) (by omega)]
    refine ⟨hH.1, fun h => ?_, hH.2.2⟩
    rw [qcutA_sum hr hk16]
    by_cases hc : qown k (qmany M) = r
    · rw [if_pos hc, (hFG k hk16).1.2]
      have f0 : ¬ M.1 (74 + qco P k (qmany M)) = 1 := by
        intro h
        have := g3 h
        rw [hc] at this
        omega
      have hb : M.2.2 (qco P k (qmany M)) = -1 := by
        apply Decidable.byContradiction
        intro h
        have := (g2.mp h).1
        rw [hc] at this
        omega
      congr 2
      unfold qseq qpre
      rw [if_neg f0, qup_none hb]
      have h148 := hO.2.2.2.1 (4 + qsk P k) (by omega)
      rw [show 144 + (4 + qsk P k) = 148 + qsk P k from by omega] at h148 g4
      rcases h148 with h | h
      · rw [g4 h, if_neg (by omega), qf_nil, List.append_nil]
      · rw [if_pos h, List.append_nil, hH.2.2 h (by
          rcases hO.2.2.1 (qco P k (qmany M)) (by omega) with h | h
          · exact h
          · exact absurd h f0)]
    · rw [if_neg hc]
      rw [qcutA_S hr (by omega) (by omega) (by omega)] at h
      exact hH.2.1 h
  · intro t x ht hx h
    rw [qlc_eq h1] at h
    refine ⟨?_, ?_⟩
    · rw [qcutA_B hr, if_neg (by
        intro hc
        apply h
        unfold qlc qlr qns
        rw [if_neg (by omega), if_neg (by omega)]
        omega)]
      exact (hX t x ht hx h).1
    · rcases hb01 (43 + (4 * t + x)) (by omega) (by omega) with hh | hh
      · exact hh
      · rw [hh]; exact (hX t x ht hx h).2
  · intro h
    rw [qcutA_S hr (by omega) (by omega) (by omega)] at h
    refine ⟨fun j hj => ?_, fun d hd => ?_⟩
    · rw [qcutA_S hr (by omega) (by omega) (by omega)]; exact (hC h).1 j hj
    · rw [qcutA_L hr]; exact (hC h).2 d hd
  · intro h
    rw [qcutA_S hr (by omega) (by omega) (by omega)] at h ⊢
    exact hC2 h
