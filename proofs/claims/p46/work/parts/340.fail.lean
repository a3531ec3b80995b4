/-! The flow fails, is rescaled, begins. -/
theorem qI_show0 {P : qP} {M : qM} (hI : qI P M) : qI P (qshow P M) ∧ ¬ qhid (qshow P M) := ⟨qI_show hI, qshow_hid hI.1.2.1.2.2.2.2.2.2.2.2.2.1⟩
/-- what is wanted of a flow that stands at what is done: no checkpoint in progress, nothing to be shown -/
theorem qI_stand {P : qP} {M N : qM} (hI : qI P M) (hno : ¬ qhid M) (m : Nat) (hm : 1 ≤ m ∧ m ≤ 4)
    (n1 : N.1 1 = m) (nS : ∀ k, (k = 2 ∨ k = 3 ∨ k = 4 ∨ 9 ≤ k ∧ k < 13 ∨ 118 ≤ k ∧ k < 144) → N.1 k = M.1 k) (n13 : ∀ j, j < 20 → N.1 (13 + j) = M.1 (124 + j)) (n33 : ∀ k, 33 ≤ k → k < 67 → N.1 k = 0) (n67 : N.1 67 = 0)
    (nB : ∀ c, N.2.2 c = -1) (nL : ∀ c, c < 24 → N.2.1 c = N.2.1 (54 + c)) (nE : ∀ c, 24 ≤ c → c < 28 → N.2.1 c = []) (n28 : ∀ c, 28 ≤ c → c < 30 → N.2.1 c = M.2.1 c) (nK : ∀ c, 30 ≤ c → c < 54 → N.2.1 c = [])
    (nV : ∀ c n, c < 24 → n ∈ N.2.1 (54 + c) → qat P m c n) (nD : ∀ k, k < 16 → qf P k (N.2.1 (54 + qco P k m)) = qf P k (M.2.1 (54 + qco P k (qmany M))) ∧ qf P k (N.2.1 (54 + qci k m)) = qf P k (M.2.1 (54 + qci k (qmany M))))
    (nC : N.1 118 = 0 → ∀ c, c < 24 → N.2.1 (54 + c) = []) : qI P N := by
  obtain ⟨⟨hP, hN, hV, hFG, hZ, hOn, hX, hC, hC2⟩, hW⟩ := hI
  have hmN : qmany N = m := by unfold qmany; rw [n1]; exact Int.toNat_natCast m
  have hnk := hP.2.2.2.1
  have hno2 : ¬ qhid N := by unfold qhid; rw [nS _ (by omega), nS _ (by omega)]; exact hno
  have hN2 : qN P N := by
    obtain ⟨a1, a2, a3, a4, a5, a6, a7, a8, a9, a10, a11, a12, a13, a14⟩ := hN
    refine ⟨?_, ?_, ?_, ?_, ?_, ?_, ?_, Or.inl n67, ?_, ?_, ?_, ?_, ?_, ?_⟩
    · rw [n1]; omega
    · rw [nS _ (by omega)]; exact a2
    · rw [nS _ (by omega)]; exact a3
    · rw [nS _ (by omega)]; exact a4
    · intro s hs; rw [nS _ (by omega)]; exact a5 s hs
    · intro s hs; rw [n13 _ (by omega)]; exact a7 s hs
    · intro s hs; rw [nS _ (by omega)]; exact a7 s hs
    · rw [nS _ (by omega)]; exact a9
    · rw [nS _ (by omega)]; exact a10
    · rw [nS _ (by omega)]; exact a11
    · intro r hr; rw [n33 _ (by omega) (by omega)]; exact ⟨by omega, fun _ => by omega⟩
    · intro i hi; rw [n33 _ (by omega) (by omega)]; omega
    · intro c hc; rw [n33 _ (by omega) (by omega)]; exact Or.inl rfl
  have hk := qix hP hN2
  rw [hmN] at hk
  refine ⟨⟨hP, hN2, ?_, fun k hk16 => ?_, ?_, ?_, ?_, ?_, ?_⟩, ?_⟩
  · intro d n hd hn
    rw [hmN]
    unfold qch
    by_cases d1 : d < 24
    · rw [if_pos (by omega)]; rw [nL d d1] at hn; exact nV d n d1 hn
    · by_cases d2 : d < 28
      · rw [nE d (by omega) d2] at hn; cases hn
      · by_cases d3 : d < 30
        · rw [if_pos d3]
          rw [n28 d (by omega) d3] at hn
          have := hV d n (by omega) hn
          unfold qch at this
          rw [if_pos d3] at this
          exact ⟨this.1, by omega, by omega, this.2.2.2⟩
        · by_cases d4 : d < 54
          · rw [nK d (by omega) d4] at hn; cases hn
          · rw [if_neg d3, if_neg d4]
            refine nV (d - 54) n (by omega) ?_
            rw [show 54 + (d - 54) = d from by omega]; exact hn
  · obtain ⟨k1, k2, k3, k4, k5, k6⟩ := hk k
    obtain ⟨hD1, hD2⟩ := nD k hk16
    have hG := (hFG k hk16).2
    have hb : qbase P N k = qbase P M k := by
      unfold qbase
      rw [if_neg hno, if_neg hno2, n28 _ (by omega) (by omega)]
    unfold qIG at hG
    refine ⟨?_, ?_⟩
    · unfold qIF qseq
      rw [hmN, nL (qco P k m) (by omega), nL (qci k m) (by omega), hD1, hD2, nE (26 + qsk P k) (by omega) (by omega), nE (24 + qsk P k) (by omega) (by omega), n28 (28 + qsk P k) (by omega) (by omega), n13 (k % 4) (by omega), show 17 + k = 13 + (4 + k) from by omega, n13 (4 + k) (by omega), show 124 + (4 + k) = 128 + k from by omega]
      unfold qbase at hG
      rw [if_neg hno] at hG
      simp only [qf_nil, List.append_nil]
      exact hG
    · unfold qIG
      rw [hb, hmN, hD1, hD2, nS (124 + k % 4) (by omega), nS (128 + k) (by omega)]
      exact hG
  · intro _
    refine ⟨fun c hc => ⟨nB c, n33 _ (by omega) (by omega)⟩, fun _ j hj => nE _ (by omega) (by omega)⟩
  · intro h; omega
  · intro r x hr hx _
    exact ⟨nB _, n33 _ (by omega) (by omega)⟩
  · intro h
    refine ⟨fun j hj => ?_, nC h⟩
    rw [nS _ (by omega)] at h
    rw [nS _ (by omega)]; exact (hC h).1 j hj
  · intro h
    rw [nS _ (by omega)] at h
    rw [nS _ (by omega)]; exact hC2 h
  · intro h; omega
theorem qI_fail {P : qP} {M : qM} (hI : qI P M) : qI P (qfail P M) := by
  obtain ⟨hI1, hno⟩ := qI_show0 hI
  have hm4 := qN_many hI1.1.2.1
  have hP := hI.1.1
  have e1 : (qfail P M).1 1 = ((qmany (qshow P M) : Nat) : Int) := by
    have := hI1.1.2.1.1
    show (qshow P M).1 1 = _
    unfold qmany
    omega
  have hS : ∀ k, k < 13 ∨ 67 < k → k ≠ 7 → (qfail P M).1 k = (qshow P M).1 k := by
    intro k h1 h2
    unfold qfail
    dsimp only
    rw [if_neg (by omega), if_neg h2, if_neg (by omega), if_neg (by omega)]
  refine qI_stand hI1 hno (qmany (qshow P M)) hm4 e1 (fun k hk => hS k (by omega) (by omega)) (fun j hj => ?_) (fun k h1 h2 => ?_) rfl (fun _ => rfl) (fun c hc => ?_) (fun c h1 h2 => ?_) (fun c h1 h2 => ?_) (fun c h1 h2 => ?_) (fun c n hc hn => ?_) (fun k hk => ?_) (fun h c hc => ?_)
  · unfold qfail
    dsimp only
    rw [if_neg (by omega), if_neg (by omega), if_pos (by omega), show 13 + j + 111 = 124 + j from by omega]
  · unfold qfail
    dsimp only
    rw [if_neg (by omega), if_neg (by omega), if_neg (by omega), if_pos (by omega)]
  · unfold qfail
    dsimp only
    rw [if_pos hc, if_neg (by omega), if_neg (by omega), if_neg (by omega)]
  · unfold qfail
    dsimp only
    rw [if_neg (by omega), if_pos h2]
  · unfold qfail
    dsimp only
    rw [if_neg (by omega), if_neg (by omega), if_neg (by omega)]
  · unfold qfail
    dsimp only
    rw [if_neg (by omega), if_neg (by omega), if_pos (by omega)]
  · have hn : n ∈ (qshow P M).2.1 (54 + c) := by
      unfold qfail at hn
      dsimp only at hn
      rw [if_neg (by omega), if_neg (by omega), if_neg (by omega)] at hn
      exact hn
    have := hI1.1.2.2.1 (54 + c) n (by omega) hn
    unfold qch at this
    rw [if_neg (by omega), if_neg (by omega), show 54 + c - 54 = c from by omega] at this
    exact this
  · have hD : ∀ c, c < 24 → (qfail P M).2.1 (54 + c) = (qshow P M).2.1 (54 + c) := by
      intro c hc
      unfold qfail
      dsimp only
      rw [if_neg (by omega), if_neg (by omega), if_neg (by omega)]
    obtain ⟨k1, k2, k3, k4, k5, k6⟩ := qix hP hI1.1.2.1 k
    rw [hD _ (by omega), hD _ (by omega)]
    exact ⟨rfl, rfl⟩
  · have h : (qshow P M).1 118 = 0 := h
    show (if 54 + c < 24 then _ else _) = _
    rw [if_neg (by omega), if_neg (by omega), if_neg (by omega)]
    exact (hI1.1.2.2.2.2.2.2.2.1 h).2 c hc
