/-! What a step of the flow keeps of it. -/
theorem qmany_eq {M N : qM} (h : N.1 1 = M.1 1) : qmany N = qmany M := by unfold qmany; rw [h]
theorem qns_eq {P : qP} {M N : qM} (h : N.1 1 = M.1 1) (r : Nat) : qns P N r = qns P M r := by unfold qns; rw [qmany_eq h]
theorem qlr_eq {P : qP} {M N : qM} (h : N.1 1 = M.1 1) (r : Nat) : qlr P N r = qlr P M r := by unfold qlr; rw [qmany_eq h]
theorem qlc_eq {P : qP} {M N : qM} (h : N.1 1 = M.1 1) (r x : Nat) : qlc P N r x = qlc P M r x := by unfold qlc; rw [qlr_eq h, qns_eq h]
theorem qci_eq (k m : Nat) : qci k m = 4 * qown k m + k % 4 := rfl
theorem qco_eq (P : qP) (k m : Nat) : qco P k m = 16 + 4 * qsk P k + qown k m := rfl
theorem qN_many {P : qP} {M : qM} (h : qN P M) : 1 ≤ qmany M ∧ qmany M ≤ 4 := by
  have := h.1
  unfold qmany
  omega
theorem qns_le {P : qP} {M : qM} (hP : qPok P) (h : qN P M) (r : Nat) : qns P M r ≤ 4 ∧ 1 ≤ qns P M r := by
  have := qN_many h
  have := hP.1
  have := hP.2.1
  unfold qns
  split <;> omega
/-- the places of a key -/
theorem qix {P : qP} {M : qM} (hP : qPok P) (hN : qN P M) (k : Nat) : qsk P k < P.2.1 ∧ qsk P k < 2 ∧ qown k (qmany M) < qmany M ∧ qown k (qmany M) < 4 ∧ qci k (qmany M) = 4 * qown k (qmany M) + k % 4 ∧ qco P k (qmany M) = 16 + 4 * qsk P k + qown k (qmany M) := by
  have h1 := qN_many hN
  have h2 := qown_lt (k := k) h1.1
  have h3 := qsk_lt (P := P) (k := k) hP.2.2.1
  have := hP.2.2.2.1
  exact ⟨h3, by omega, h2, by omega, rfl, rfl⟩
theorem qIF_congr {P : qP} {M N : qM} (hP : qPok P) (hN : qN P M) {k : Nat} (h1 : N.1 1 = M.1 1) (h2 : N.1 (13 + k % 4) = M.1 (13 + k % 4)) (h3 : N.1 (17 + k) = M.1 (17 + k))
    (hl : ∀ c, c < 30 → qf P k (N.2.1 c) = qf P k (M.2.1 c)) (h : qIF P M k) : qIF P N k := by
  obtain ⟨k1, k2, k3, k4, k5, k6⟩ := qix hP hN k
  unfold qIF qseq at h ⊢
  rw [qmany_eq h1, h2, h3]
  simp (disch := omega) only [hl]
  exact h
theorem qbase_congr {P : qP} {M N : qM} (hP : qPok P) {k : Nat} (h118 : N.1 118 = M.1 118) (h123 : N.1 123 = M.1 123)
    (hl : ∀ c, 26 ≤ c → c < 30 → qf P k (N.2.1 c) = qf P k (M.2.1 c)) : qbase P N k = qbase P M k := by
  have := (qsk_lt (P := P) (k := k) hP.2.2.1)
  have := hP.2.2.2.1
  unfold qbase
  rw [h118, h123]
  simp (disch := omega) only [hl]
theorem qIG_congr {P : qP} {M N : qM} (hP : qPok P) (hN : qN P M) {k : Nat} (h1 : N.1 1 = M.1 1) (hb : qbase P N k = qbase P M k) (h2 : N.1 (124 + k % 4) = M.1 (124 + k % 4)) (h3 : N.1 (128 + k) = M.1 (128 + k))
    (hl : ∀ c, 54 ≤ c → c < 78 → qf P k (N.2.1 c) = qf P k (M.2.1 c)) (h : qIG P M k) : qIG P N k := by
  obtain ⟨k1, k2, k3, k4, k5, k6⟩ := qix hP hN k
  unfold qIG at h ⊢
  rw [qmany_eq h1, hb, h2, h3]
  simp (disch := omega) only [hl]
  exact h
/-- the lists of a sink that isn't there are empty -/
theorem qV_none {P : qP} {M : qM} (hP : qPok P) (hN : qN P M) (hV : qV P M) {c : Nat} (h1 : 24 ≤ c) (h2 : c < 30) (h3 : P.2.1 ≤ c % 2) : M.2.1 c = [] := by
  cases e : M.2.1 c with
  | nil => rfl
  | cons n t =>
    have h4 := hV c n (by omega) (by rw [e]; simp)
    unfold qch at h4
    rw [if_pos h2] at h4
    have := h4.2.2.2 h1
    have := (qix hP hN (qkey P n)).1
    omega
theorem qup_none {M : qM} {c : Nat} (h : M.2.2 c = -1) : qup M c = M.2.1 c := if_pos h
theorem qbegin_hi {o : Int} {M : qM} {k : Nat} (h : 70 ≤ k ∧ k < 118 ∨ 144 ≤ k) : (qbegin o M).1 k = 0 := if_pos h
theorem qbegin_lo {o : Int} {M : qM} {k : Nat} (h : k < 67 ∨ 118 ≤ k) (h2 : k < 144) (h5 : k ≠ 5) : (qbegin o M).1 k = M.1 k := by
  unfold qbegin
  dsimp only
  rw [if_neg (by omega), if_neg (by omega), if_neg (by omega), if_neg (by omega), if_neg (by omega)]
theorem qbegin_L {o : Int} {M : qM} {c : Nat} (h : c < 30 ∨ 54 ≤ c) : (qbegin o M).2.1 c = M.2.1 c := if_neg (by omega)
theorem qbegin_K {o : Int} {M : qM} {c : Nat} (h : 30 ≤ c ∧ c < 54) : (qbegin o M).2.1 c = [] := if_pos h
theorem qbegin_B {o : Int} {M : qM} {c : Nat} : (qbegin o M).2.2 c = M.2.2 c := rfl
theorem qI_begin {P : qP} {M : qM} {o : Int} (hI : qI P M) (h67 : M.1 67 = 0) (ho : o = 0 ∨ o = 1) (ht : 0 ≤ M.1 0 ∧ 0 ≤ M.1 5) : qI P (qbegin o M) := by
  obtain ⟨⟨hP, hN, hV, hFG, hZ, -, hX, hC, hC2⟩, -⟩ := hI
  obtain ⟨hZ1, hZ2⟩ := hZ h67
  have h1 : (qbegin o M).1 1 = M.1 1 := qbegin_lo (by omega) (by omega) (by omega)
  have hm := qN_many hN
  have hk := qix hP hN
  refine ⟨⟨hP, ?_, ?_, fun k hk16 => ⟨?_, ?_⟩, ?_, fun _ => ⟨?_, ?_, fun k hk16 => ?_⟩, ?_, ?_, ?_⟩, fun _ r hr hl => ?_⟩
  · obtain ⟨a1, a2, a3, a4, a5, a6, a7, a8, a9, a10, a11, a12, a13, a14⟩ := hN
    refine ⟨by rw [h1]; exact a1, a2, a3, a4, ?_, ?_, ?_, Or.inr rfl, a9, a10, a11, ?_, ?_, ?_⟩
    all_goals intro s hs
    · simp (disch := omega) only [qbegin_lo]; exact a5 s hs
    · simp (disch := omega) only [qbegin_lo]; exact a6 s hs
    · simp (disch := omega) only [qbegin_lo]; exact a7 s hs
    · rw [qlr_eq h1, qns_eq h1]; simp (disch := omega) only [qbegin_lo]; exact a12 s hs
    · simp (disch := omega) only [qbegin_lo]; exact a13 s hs
    · simp (disch := omega) only [qbegin_lo]; exact a14 s hs
  · intro c n hc hn
    rw [qmany_eq h1]
    by_cases h : 30 ≤ c ∧ c < 54
    · rw [qbegin_K h] at hn; cases hn
    · rw [qbegin_L (by omega)] at hn; exact hV c n hc hn
  · exact qIF_congr hP hN h1 (qbegin_lo (by omega) (by omega) (by omega)) (qbegin_lo (by omega) (by omega) (by omega)) (fun c hc => by rw [qbegin_L (by omega)]) (hFG k hk16).1
  · exact qIG_congr hP hN h1 (qbase_congr hP rfl rfl (fun c _ hc => by rw [qbegin_L (by omega)])) (qbegin_lo (by omega) (by omega) (by omega)) (qbegin_lo (by omega) (by omega) (by omega)) (fun c h54 hc => by rw [qbegin_L (by omega)]) (hFG k hk16).2
  · intro h; cases h
  · refine ⟨ho, ?_, ?_, ?_, ?_, ?_, ?_, ?_, ?_, ?_⟩
    · intro s hs; exact Or.inl (qbegin_hi (by omega))
    · intro s hs; exact Or.inl (qbegin_hi (by omega))
    · intro s hs; exact Or.inl (qbegin_hi (by omega))
    · intro s hs; rw [qbegin_hi (by omega)]; omega
    · show 1 ≤ M.1 5 + 1; omega
    · show 0 ≤ M.1 0 ∧ M.1 0 ≤ M.1 0; omega
    · intro s hs h; rw [qbegin_hi (by omega)] at h; cases h
    · intro r x hr hx h; rw [qbegin_hi (by omega)] at h; cases h
    · intro r hr h; rw [qbegin_hi (by omega)] at h; cases h
  · refine ⟨fun r x hr hx hlc => ?_, ?_, ?_⟩
    · have e1 : M.2.2 (4 * r + x) = -1 := (hZ1 _ (by omega)).1
      have e3 : M.1 (43 + (4 * r + x)) = 0 := (hZ1 _ (by omega)).2
      have e2 : qsrc (qbegin o M) r x = 0 := by
        unfold qsrc
        split <;> exact qbegin_hi (by omega)
      simp (disch := omega) only [qbegin_hi, qbegin_lo, qbegin_L, qbegin_K, qbegin_B, e1, e2, e3]
      simp
    · exact fun _ => ⟨fun s hs => qbegin_hi (by omega), fun s hs => qbegin_hi (by omega), fun s hs => qbegin_hi (by omega)⟩
    · intro h j hj _
      rw [qbegin_L (by omega)]
      exact hZ2 h j hj
  · have hF := (hFG k hk16).1
    obtain ⟨k1, k2, k3, k4, k5, k6⟩ := hk k
    unfold qIF qseq at hF
    have b1 := (hZ1 (qco P k (qmany M)) (by omega)).1
    have b2 := (hZ1 (qci k (qmany M)) (by omega)).1
    unfold qIH qpre qpri
    rw [qmany_eq h1]
    simp (disch := omega) only [qbegin_hi, qbegin_lo, qbegin_L, qbegin_K, qbegin_B, qup_none (show (qbegin o M).2.2 _ = -1 from b1), qup_none (show (qbegin o M).2.2 _ = -1 from b2)]
    simp only [qf_nil, List.append_nil, List.nil_append, Int.reduceEq, if_false, List.append_assoc] at hF ⊢
    exact ⟨hF.1, False.elim, fun h => False.elim h⟩
  · intro r x hr hx h
    rw [qlc_eq h1] at h
    exact ⟨(hX r x hr hx h).1, by rw [qbegin_lo (by omega) (by omega) (by omega)]; exact (hX r x hr hx h).2⟩
  · intro h
    refine ⟨fun j hj => ?_, fun c hc => ?_⟩
    · rw [qbegin_lo (by omega) (by omega) (by omega)]; exact (hC h).1 j hj
    · rw [qbegin_L (by omega)]; exact (hC h).2 c hc
  · exact hC2
  · refine ⟨fun _ h => ?_, fun _ h => ?_⟩
    · rw [qbegin_hi (by omega)] at h; cases h
    · have h0 : 0 < qns P (qbegin o M) r := by
        rw [qns_eq h1]; unfold qns; have := hP.1; split <;> omega
      have := h 0 h0
      rw [qbegin_hi (by omega)] at this; cases this
