/-! A barrier arrives, behind the cut (overtaking) or ahead of it (aligning). -/
def qkeep (r x : Nat) (l : List Nat) (b : Int) (M : qM) : qM := (qu (qu M.1 (74 + (4 * r + x)) 1) (43 + (4 * r + x)) b, qu M.2.1 (30 + (4 * r + x)) (M.2.1 (30 + (4 * r + x)) ++ l), qu M.2.2 (4 * r + x) (-1))
theorem qkeep_S {r x k : Nat} {l : List Nat} {b : Int} {M : qM} (h : k ≠ 74 + (4 * r + x)) (h2 : k ≠ 43 + (4 * r + x)) : (qkeep r x l b M).1 k = M.1 k := (qu_ne h2).trans (qu_ne h)
theorem qkeep_74 {r x : Nat} {l : List Nat} {b : Int} {M : qM} : (qkeep r x l b M).1 (74 + (4 * r + x)) = 1 := (qu_ne (by omega)).trans (qu_at _ _ _)
theorem qkeep_43 {r x : Nat} {l : List Nat} {b : Int} {M : qM} : (qkeep r x l b M).1 (43 + (4 * r + x)) = b := qu_at _ _ _
theorem qkeep_L {r x d : Nat} {l : List Nat} {b : Int} {M : qM} (h : d ≠ 30 + (4 * r + x)) : (qkeep r x l b M).2.1 d = M.2.1 d := qu_ne h
theorem qkeep_Lc {r x : Nat} {l : List Nat} {b : Int} {M : qM} : (qkeep r x l b M).2.1 (30 + (4 * r + x)) = M.2.1 (30 + (4 * r + x)) ++ l := qu_at _ _ _
theorem qkeep_B {r x d : Nat} {l : List Nat} {b : Int} {M : qM} (h : d ≠ 4 * r + x) : (qkeep r x l b M).2.2 d = M.2.2 d := qu_ne h
theorem qkeep_Bc {r x : Nat} {l : List Nat} {b : Int} {M : qM} : (qkeep r x l b M).2.2 (4 * r + x) = -1 := qu_at _ _ _
theorem qkeep_up {r x d : Nat} {l : List Nat} {b : Int} {M : qM} (h : d ≠ 4 * r + x) (h2 : d ≠ 30 + (4 * r + x)) : qup (qkeep r x l b M) d = qup M d := by
  unfold qup
  rw [qkeep_B h, qkeep_L h2]
/-- a fact that is to lie still -/
def qhush (p : Prop) : Prop := p
theorem qI_keep {P : qP} {M : qM} {r x : Nat} {l : List Nat} {b : Int} (hI : qI0 P M) (h67 : M.1 67 = 1) (hr : r < 6) (hx : x < 4) (hlc : qlc P M r x) (hB : M.2.2 (4 * r + x) ≠ -1)
    (hl : l = qup M (4 * r + x)) (hb : M.1 69 = 1 ∧ b = 0 ∧ M.1 (144 + r) = 1 ∨ M.1 69 = 0 ∧ b = 1 ∧ l = []) : qI0 P (qkeep r x l b M) := by
  obtain ⟨hP, hN, hV, hFG, hZ, hOn, hX, hC, hC2⟩ := hI
  obtain ⟨hO, hE, hH⟩ := hOn h67
  have h1 : (qkeep r x l b M).1 1 = M.1 1 := qkeep_S (by omega) (by omega)
  have hk := qix hP hN
  have hm4 := qN_many hN
  have hnk := hP.2.2.2.1
  obtain ⟨e1, e3, e4⟩ := hE
  obtain ⟨src1, fl0⟩ := (e1 r x hr hx hlc).2.1.mp hB
  have hb01 : b = 0 ∨ b = 1 := by
    rcases hb with h | h
    · exact Or.inl h.2.1
    · exact Or.inr h.2.1
  have hb0 : qhush (M.1 69 = 1 ∧ b = 0 ∧ M.1 (144 + r) = 1 ∨ M.1 69 = 0 ∧ b = 1 ∧ l = []) := hb
  clear hB hb
  have hhid : qhid (qkeep r x l b M) ↔ qhid M := by
    unfold qhid
    rw [qkeep_S (by omega) (by omega), qkeep_S (by omega) (by omega)]
  have hno : ¬ qhid M := by
    intro h
    obtain ⟨a1, a2, a3⟩ := e3 h
    unfold qsrc at src1
    split at src1
    · rw [a1 x hx] at src1; cases src1
    · rw [a3 x (by omega)] at src1; cases src1
  have hsub : ∀ n, n ∈ l → n ∈ M.2.1 (4 * r + x) := by
    intro n hn
    rw [hl] at hn
    unfold qup at hn
    split at hn
    · exact hn
    · exact List.mem_of_mem_take hn
  refine ⟨hP, ?_, ?_, fun k hk16 => ⟨?_, ?_⟩, ?_, fun h67' => ⟨?_, ?_, fun k hk16 => ?_⟩, ?_, ?_, ?_⟩
  · obtain ⟨a1, a2, a3, a4, a5, a6, a7, a8, a9, a10, a11, a12, a13, a14⟩ := hN
    refine ⟨?_, ?_, ?_, ?_, ?_, ?_, ?_, ?_, ?_, ?_, ?_, ?_, ?_, ?_⟩
    · rw [h1]; exact a1
    · rw [qkeep_S (by omega) (by omega)]; exact a2
    · rw [qkeep_S (by omega) (by omega)]; exact a3
    · rw [qkeep_S (by omega) (by omega)]; exact a4
    · intro s hs; rw [qkeep_S (by omega) (by omega)]; exact a5 s hs
    · intro s hs; rw [qkeep_S (by omega) (by omega)]; exact a6 s hs
    · intro s hs; rw [qkeep_S (by omega) (by omega)]; exact a7 s hs
    · rw [qkeep_S (by omega) (by omega)]; exact a8
    · rw [qkeep_S (by omega) (by omega)]; exact a9
    · rw [qkeep_S (by omega) (by omega)]; exact a10
    · rw [qkeep_S (by omega) (by omega)]; exact a11
    · intro s hs; rw [qlr_eq h1, qns_eq h1, qkeep_S (by omega) (by omega)]; exact a12 s hs
    · intro s hs; rw [qkeep_S (by omega) (by omega)]; exact a13 s hs
    · intro s hs
      by_cases e : s = 4 * r + x
      · subst e; rw [qkeep_43]; exact hb01
      · rw [qkeep_S (by omega) (by omega)]; exact a14 s hs
  · intro d m hd hmm
    rw [qmany_eq h1]
    by_cases d1 : d = 30 + (4 * r + x)
    · subst d1
      rw [qkeep_Lc, List.mem_append] at hmm
      rcases hmm with h | h
      · exact hV _ m hd h
      · have h5 := hV _ m (by omega) (hsub m h)
        unfold qch at h5 ⊢
        rw [if_pos (by omega)] at h5
        rw [if_neg (by omega), if_pos (by omega), show 30 + (4 * r + x) - 30 = 4 * r + x from by omega]
        exact h5
    · rw [qkeep_L d1] at hmm; exact hV d m hd hmm
  · exact qIF_congr hP hN h1 (qkeep_S (by omega) (by omega)) (qkeep_S (by omega) (by omega)) (fun d _ => by rw [qkeep_L (by omega)]) (hFG k hk16).1
  · exact qIG_congr hP hN h1 (qbase_congr hP (qkeep_S (by omega) (by omega)) (qkeep_S (by omega) (by omega)) (fun d _ hc => by rw [qkeep_L (by omega)])) (qkeep_S (by omega) (by omega)) (qkeep_S (by omega) (by omega)) (fun d h54 hd => by rw [qkeep_L (by omega)]) (hFG k hk16).2
  · intro h
    rw [qkeep_S (by omega) (by omega)] at h
    omega
  · obtain ⟨o1, o2, o3, o4, o5, o6, o7, o8, o9, o10⟩ := hO
    refine ⟨?_, ?_, ?_, ?_, ?_, ?_, ?_, ?_, ?_, ?_⟩
    · rw [qkeep_S (by omega) (by omega)]; exact o1
    · intro s hs; rw [qkeep_S (by omega) (by omega)]; exact o2 s hs
    · intro t ht
      by_cases e : t = 4 * r + x
      · subst e; exact Or.inr qkeep_74
      · rw [qkeep_S (by omega) (by omega)]; exact o3 t ht
    · intro s hs; rw [qkeep_S (by omega) (by omega)]; exact o4 s hs
    · intro s hs; rw [qkeep_S (by omega) (by omega)]; exact o5 s hs
    · rw [qkeep_S (by omega) (by omega)]; exact o6
    · rw [qkeep_S (by omega) (by omega), qkeep_S (by omega) (by omega)]; exact o7
    · intro s hs; rw [qkeep_S (by omega) (by omega)]; exact o8 s hs
    · intro t y ht hy h
      rw [qlc_eq h1]
      by_cases e : 4 * t + y = 4 * r + x
      · have : t = r := by omega
        have : y = x := by omega
        subst t y; exact hlc
      · rw [qkeep_S (by omega) (by omega)] at h; exact o9 t y ht hy h
    · intro s hs; rw [qlr_eq h1, qkeep_S (by omega) (by omega)]; exact o10 s hs
  · refine ⟨fun t y ht hy hlc2 => ?_, fun h => absurd (hhid.mp h) hno, fun h i hi hh => ?_⟩
    · rw [qlc_eq h1] at hlc2
      have es : qsrc (qkeep r x l b M) t y = qsrc M t y := by
        unfold qsrc
        split <;> exact qkeep_S (by omega) (by omega)
      rw [es, qkeep_L (d := 4 * t + y) (by omega), qkeep_S (k := 144 + t) (by omega) (by omega), qkeep_S (k := 69) (by omega) (by omega)]
      by_cases e : 4 * t + y = 4 * r + x
      · have e1 : t = r := by omega
        have e2 : y = x := by omega
        subst e1 e2
        rw [qkeep_Bc, qkeep_74, qkeep_43, qkeep_Lc]
        obtain ⟨f1, f2, f3, f4, f5, f6⟩ := e1 t y hr hx hlc
        refine ⟨Or.inl rfl, ⟨fun h => absurd rfl h, fun h => by have := h.2; omega⟩, fun _ => src1, fun h => ?_, fun h => ?_, fun h => ?_⟩
        · rcases show _ ∨ _ from hb0 with ⟨b1, b2, b3⟩ | ⟨b1, b2, b3⟩
          · omega
          · rw [f4 h, b3]; rfl
        · rcases show _ ∨ _ from hb0 with ⟨b1, b2, b3⟩ | ⟨b1, b2, b3⟩
          · exact ⟨b2, fun _ => b3⟩
          · omega
        · rcases show _ ∨ _ from hb0 with ⟨b1, b2, b3⟩ | ⟨b1, b2, b3⟩
          · omega
          · have h01 := hO.2.2.2.1 t ht
            refine ⟨⟨fun _ => ⟨rfl, ?_⟩, fun _ => b2⟩, by rw [(f6 h).2.1, b3]; rfl, fun _ => rfl⟩
            rcases h01 with h0 | h0
            · exact h0
            · have := (f6 h).2.2 h0; omega
      · rw [qkeep_B e, qkeep_S (k := 74 + (4 * t + y)) (by omega) (by omega), qkeep_S (k := 43 + (4 * t + y)) (by omega) (by omega), qkeep_L (by omega)]
        exact e1 t y ht hy hlc2
    · rw [qkeep_S (by omega) (by omega)] at hh
      rw [qkeep_L (by omega)]
      exact e4 hno i hi hh
  · obtain ⟨k1, k2, k3, k4, k5, k6⟩ := hk k
    have hH := hH k hk16
    unfold qIH at hH ⊢
    have u1 : qpre P (qkeep r x l b M) k = qpre P M k := by
      unfold qpre
      rw [qmany_eq h1, qkeep_L (d := 28 + qsk P k) (by omega), qkeep_L (d := 26 + qsk P k) (by omega), qkeep_L (d := 24 + qsk P k) (by omega), qkeep_S (k := 148 + qsk P k) (by omega) (by omega)]
      by_cases e : qco P k (qmany M) = 4 * r + x
      · rw [e, qkeep_Lc, qkeep_74, fl0, if_pos rfl, if_neg (show ¬ (0 : Int) = 1 from by decide), ← hl, qf_app]
        simp only [List.append_assoc, List.append_nil]
      · rw [qkeep_up e (by omega), qkeep_L (by omega), qkeep_S (by omega) (by omega)]
    have u2 : qpri P (qkeep r x l b M) k = qpri P M k := by
      unfold qpri
      rw [qmany_eq h1]
      by_cases e : qci k (qmany M) = 4 * r + x
      · rw [e, qkeep_Lc, qkeep_74, fl0, if_pos rfl, if_neg (show ¬ (0 : Int) = 1 from by decide), ← hl, qf_app]
        simp only [List.append_nil]
      · rw [qkeep_up e (by omega), qkeep_L (by omega), qkeep_S (by omega) (by omega)]
    rw [u1, u2, qmany_eq h1, qkeep_S (k := 144 + qown k (qmany M)) (by omega) (by omega), qkeep_S (k := 102 + k) (by omega) (by omega), qkeep_S (k := 148 + qsk P k) (by omega) (by omega), qkeep_S (k := 70 + k % 4) (by omega) (by omega), qkeep_S (k := 98 + k % 4) (by omega) (by omega), qkeep_S (k := 13 + k % 4) (by omega) (by omega), qkeep_L (d := 24 + qsk P k) (by omega)]
    refine ⟨hH.1, hH.2.1, ?_⟩
    by_cases e : qco P k (qmany M) = 4 * r + x
    · rw [e, qkeep_74]; intro _ h; cases h
    · rw [qkeep_L (by omega), qkeep_S (by omega) (by omega)]; exact hH.2.2
  · intro t y ht hy h
    rw [qlc_eq h1] at h
    by_cases e : 4 * t + y = 4 * r + x
    · have e1 : t = r := by omega
      have e2 : y = x := by omega
      subst e1 e2
      exact absurd hlc h
    · rw [qkeep_B e, qkeep_S (by omega) (by omega)]
      exact hX t y ht hy h
  · intro h
    rw [qkeep_S (by omega) (by omega)] at h
    refine ⟨fun i hi => ?_, fun d hd => ?_⟩
    · rw [qkeep_S (by omega) (by omega)]; exact (hC h).1 i hi
    · rw [qkeep_L (by omega)]; exact (hC h).2 d hd
  · intro h
    rw [qkeep_S (by omega) (by omega)] at h ⊢
    exact hC2 h
