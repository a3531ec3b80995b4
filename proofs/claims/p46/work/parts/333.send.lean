/-! A source sends a record. -/
def qsend1 (s n c : Nat) (M : qM) : qM := (qu (qu M.1 (13 + s) (M.1 (13 + s) + 1)) 8 (M.1 8 + 1), qu M.2.1 c (M.2.1 c ++ [n]), M.2.2)
theorem qsend1_S {s n c k : Nat} {M : qM} (h : k ≠ 13 + s) (h2 : k ≠ 8) : (qsend1 s n c M).1 k = M.1 k := (qu_ne h2).trans (qu_ne h)
theorem qsend1_13 {s n c : Nat} {M : qM} : (qsend1 s n c M).1 (13 + s) = M.1 (13 + s) + 1 := (qu_ne (by omega)).trans (qu_at _ _ _)
theorem qsend1_L {s n c d : Nat} {M : qM} (h : d ≠ c) : (qsend1 s n c M).2.1 d = M.2.1 d := qu_ne h
theorem qsend1_Lc {s n c : Nat} {M : qM} : (qsend1 s n c M).2.1 c = M.2.1 c ++ [n] := qu_at _ _ _
theorem qsend1_B {s n c : Nat} {M : qM} : (qsend1 s n c M).2.2 = M.2.2 := rfl
theorem qsend1_up {s n c : Nat} {M : qM} (h : M.2.2 c = -1 ∨ 0 ≤ M.2.2 c ∧ M.2.2 c ≤ (M.2.1 c).length) : qup (qsend1 s n c M) c = if M.2.2 c = -1 then M.2.1 c ++ [n] else qup M c := by
  unfold qup
  rw [qsend1_B, qsend1_Lc]
  by_cases e : M.2.2 c = -1
  · rw [if_pos e, if_pos e]
  · rw [if_neg e, if_neg e, if_neg e, List.take_append_of_le_length (by omega)]
theorem qsend1_uo {s n c d : Nat} {M : qM} (h : d ≠ c) : qup (qsend1 s n c M) d = qup M d := by
  unfold qup
  rw [qsend1_B, qsend1_L h]
/-- barriers that are there stand within their channels -/
theorem qI_B {P : qP} {M : qM} (hI : qI P M) {c : Nat} (hc : c < 24) : M.2.2 c = -1 ∨ 0 ≤ M.2.2 c ∧ M.2.2 c ≤ (M.2.1 c).length := by
  obtain ⟨⟨hP, hN, hV, hFG, hZ, hOn, hX, hC, hC2⟩, -⟩ := hI
  rcases hN.2.2.2.2.2.2.2.1 with h | h
  · exact Or.inl ((hZ h).1 c hc).1
  · have e : 4 * (c / 4) + c % 4 = c := by omega
    have h1 := (hOn h).2.1.1 (c / 4) (c % 4) (by omega) (by omega)
    have h2 := hX (c / 4) (c % 4) (by omega) (by omega)
    rw [e] at h1 h2
    by_cases hl : qlc P M (c / 4) (c % 4)
    · exact (h1 hl).1
    · exact Or.inl (h2 hl).1
theorem qI_send {P : qP} {M : qM} {s : Nat} (hI : qI P M) (hs : s < P.1) : qI P (qsend P s M) := by
  unfold qsend
  split
  case isTrue => exact hI
  rename_i hlt
  dsimp only
  split
  case isTrue => exact hI
  have hB := fun c hc => qI_B hI (c := c) hc
  obtain ⟨⟨hP, hN, hV, hFG, hZ, hOn, hX, hC, hC2⟩, hW⟩ := hI
  have h4 : s < 4 := by have := hP.2.1; omega
  obtain ⟨q, hq⟩ : ∃ q : Nat, M.1 (13 + s) = q := ⟨(M.1 (13 + s)).toNat, by have := (hN.2.2.2.2.2.1 s h4).1; omega⟩
  have hqr : q < P.2.2.1 s := by omega
  have hq200 : q < 200 := by have := hP.2.2.2.2.1 s; omega
  generalize hn : 200 * s + (M.1 (13 + s)).toNat = n
  have hn : 200 * s + q = n := by omega
  have hn8 : n < 800 := by omega
  have hnd : n / 200 = s := by omega
  have hkm := qkey_mod (P := P) hn8
  have hk := qix hP hN
  obtain ⟨-, -, w3, w4, w5, -⟩ := hk (qkey P n)
  generalize hc : 4 * qown (qkey P n) (qmany M) + s = c
  have hcc : qci (qkey P n) (qmany M) = c := by omega
  have hc16 : c < 16 := by omega
  show qI P (qsend1 s n c M)
  have h1 : (qsend1 s n c M).1 1 = M.1 1 := qsend1_S (by omega) (by omega)
  have hfo : ∀ k, qkey P n ≠ k → ∀ d, qf P k ((qsend1 s n c M).2.1 d) = qf P k (M.2.1 d) := by
    intro k hkn d
    by_cases e : d = c
    · subst e; rw [qsend1_Lc, qf_app, qf_neg hkn, List.append_nil]
    · rw [qsend1_L e]
  have hfu : ∀ k, qkey P n ≠ k → ∀ d, qf P k (qup (qsend1 s n c M) d) = qf P k (qup M d) := by
    intro k hkn d
    by_cases e : d = c
    · subst e
      rw [qsend1_up (hB _ (by omega))]
      split
      · rename_i hb; rw [qf_app, qf_neg hkn, List.append_nil, qup_none hb]
      · rfl
    · rw [qsend1_uo e]
  have hstep : ∀ k, k % 4 = s → qfrom P k q = qf P k [n] ++ qfrom P k (q + 1) := by
    intro k hks
    have := qfrom_step (P := P) (k := k) (p := q) (by rw [hks]; exact hqr)
    rw [hks, hn] at this
    exact this
  refine ⟨⟨hP, ?_, ?_, fun k hk16 => ⟨?_, ?_⟩, ?_, fun h67 => ?_, ?_, ?_, ?_⟩, fun h67 r hr hl => ?_⟩
  · obtain ⟨a1, a2, a3, a4, a5, a6, a7, a8, a9, a10, a11, a12, a13, a14⟩ := hN
    refine ⟨?_, ?_, ?_, ?_, ?_, ?_, ?_, ?_, ?_, ?_, ?_, ?_, ?_, ?_⟩
    · rw [h1]; exact a1
    · rw [qsend1_S (by omega) (by omega)]; exact a2
    · rw [qsend1_S (by omega) (by omega)]; exact a3
    · rw [qsend1_S (by omega) (by omega)]; exact a4
    · intro s hs; rw [qsend1_S (by omega) (by omega)]; exact a5 s hs
    · intro t ht
      by_cases e : t = s
      · subst e; rw [qsend1_13, hq]; omega
      · rw [qsend1_S (by omega) (by omega)]; exact a6 t ht
    · intro s hs; rw [qsend1_S (by omega) (by omega)]; exact a7 s hs
    · rw [qsend1_S (by omega) (by omega)]; exact a8
    · rw [qsend1_S (by omega) (by omega)]; exact a9
    · rw [qsend1_S (by omega) (by omega)]; exact a10
    · rw [qsend1_S (by omega) (by omega)]; exact a11
    · intro s hs; rw [qlr_eq h1, qns_eq h1, qsend1_S (by omega) (by omega)]; exact a12 s hs
    · intro s hs; rw [qsend1_S (by omega) (by omega)]; exact a13 s hs
    · intro s hs; rw [qsend1_S (by omega) (by omega)]; exact a14 s hs
  · intro d m hd hm
    rw [qmany_eq h1]
    by_cases e : d = c
    · subst e
      rw [qsend1_Lc, List.mem_append, List.mem_singleton] at hm
      rcases hm with hm | rfl
      · exact hV _ _ hd hm
      · unfold qch; rw [if_pos (by omega)]
        exact ⟨hn8, fun _ => by omega, fun _ _ => by omega, fun _ => by omega⟩
    · rw [qsend1_L e] at hm; exact hV d m hd hm
  · by_cases hkn : qkey P n = k
    · have hF := (hFG k hk16).1
      subst hkn
      obtain ⟨k1, k2, k3, k4, k5, k6⟩ := hk (qkey P n)
      unfold qIF qseq at hF ⊢
      rw [qmany_eq h1, hcc, qsend1_Lc, qsend1_L (by omega), qsend1_L (by omega), qsend1_L (by omega), qsend1_L (by omega), qsend1_S (k := 17 + qkey P n) (by omega) (by omega), hkm, hnd, qsend1_13, hq, qf_app]
      rw [hcc, hkm, hnd, hq, Int.toNat_natCast, hstep _ (by omega)] at hF
      rw [show ((q : Int) + 1).toNat = q + 1 from by omega]
      simp only [List.append_assoc] at hF ⊢
      exact hF
    · by_cases hks : k % 4 = s
      · have hF := (hFG k hk16).1
        obtain ⟨k1, k2, k3, k4, k5, k6⟩ := hk k
        unfold qIF qseq at hF ⊢
        simp only [hfo k hkn]
        rw [qmany_eq h1, qsend1_S (k := 17 + k) (by omega) (by omega), hks, qsend1_13, hq, show ((q : Int) + 1).toNat = q + 1 from by omega]
        rw [hks, hq, Int.toNat_natCast, hstep k hks, qf_neg hkn, List.nil_append] at hF
        exact hF
      · exact qIF_congr hP hN h1 (qsend1_S (by omega) (by omega)) (qsend1_S (by omega) (by omega)) (fun d _ => hfo k hkn d) (hFG k hk16).1
  · exact qIG_congr hP hN h1 (qbase_congr hP (qsend1_S (by omega) (by omega)) (qsend1_S (by omega) (by omega)) (fun d _ hc => by rw [qsend1_L (by omega)])) (qsend1_S (by omega) (by omega)) (qsend1_S (by omega) (by omega)) (fun d h54 hd => by rw [qsend1_L (by omega)]) (hFG k hk16).2
  · intro h67
    rw [qsend1_S (by omega) (by omega)] at h67
    obtain ⟨z1, z2⟩ := hZ h67
    refine ⟨fun d hd => ?_, fun h j hj => ?_⟩
    · rw [qsend1_S (by omega) (by omega)]; exact z1 d hd
    · unfold qhid at h
      rw [qsend1_S (by omega) (by omega), qsend1_S (by omega) (by omega)] at h
      rw [qsend1_L (by omega)]; exact z2 h j hj
  · rw [qsend1_S (by omega) (by omega)] at h67
    obtain ⟨hO, hE, hH⟩ := hOn h67
    refine ⟨?_, ?_, fun k hk16 => ?_⟩
    · obtain ⟨o1, o2, o3, o4, o5, o6, o7, o8, o9, o10⟩ := hO
      refine ⟨?_, ?_, ?_, ?_, ?_, ?_, ?_, ?_, ?_, ?_⟩
      · rw [qsend1_S (by omega) (by omega)]; exact o1
      · intro s hs; rw [qsend1_S (by omega) (by omega)]; exact o2 s hs
      · intro s hs; rw [qsend1_S (by omega) (by omega)]; exact o3 s hs
      · intro s hs; rw [qsend1_S (by omega) (by omega)]; exact o4 s hs
      · intro s hs; rw [qsend1_S (by omega) (by omega)]; exact o5 s hs
      · rw [qsend1_S (by omega) (by omega)]; exact o6
      · rw [qsend1_S (by omega) (by omega), qsend1_S (by omega) (by omega)]; exact o7
      · intro s hs; rw [qsend1_S (by omega) (by omega)]; exact o8 s hs
      · intro r x hr hx; rw [qlc_eq h1, qsend1_S (by omega) (by omega)]; exact o9 r x hr hx
      · intro s hs; rw [qlr_eq h1, qsend1_S (by omega) (by omega)]; exact o10 s hs
    · obtain ⟨e1, e3, e4⟩ := hE
      have hhid : qhid (qsend1 s n c M) ↔ qhid M := by
        unfold qhid
        rw [qsend1_S (by omega) (by omega), qsend1_S (by omega) (by omega)]
      refine ⟨fun r x hr hx hlc => ?_, fun h => ?_, fun h j hj hh => ?_⟩
      · rw [qlc_eq h1] at hlc
        obtain ⟨g1, g2, g3, g4, g5, g6⟩ := e1 r x hr hx hlc
        have es : qsrc (qsend1 s n c M) r x = qsrc M r x := by unfold qsrc; split <;> exact qsend1_S (by omega) (by omega)
        rw [es, qsend1_L (d := 30 + (4 * r + x)) (by omega), qsend1_S (k := 74 + (4 * r + x)) (by omega) (by omega), qsend1_S (k := 144 + r) (by omega) (by omega), qsend1_S (k := 43 + (4 * r + x)) (by omega) (by omega), qsend1_S (k := 69) (by omega) (by omega), qsend1_B]
        refine ⟨?_, g2, g3, g4, g5, g6⟩
        by_cases e : 4 * r + x = c
        · rw [e, qsend1_Lc, List.length_append]; rw [e] at g1; simp only [List.length_singleton]; omega
        · rw [qsend1_L e]; exact g1
      · obtain ⟨f1, f2, f3⟩ := e3 (hhid.mp h)
        exact ⟨fun t ht => by rw [qsend1_S (by omega) (by omega)]; exact f1 t ht, fun t ht => by rw [qsend1_S (by omega) (by omega)]; exact f2 t ht, fun t ht => by rw [qsend1_S (by omega) (by omega)]; exact f3 t ht⟩
      · rw [qsend1_S (by omega) (by omega)] at hh
        rw [qsend1_L (by omega)]
        exact e4 (fun u => h (hhid.mpr u)) j hj hh
    · obtain ⟨k1, k2, k3, k4, k5, k6⟩ := hk k
      have hH := hH k hk16
      obtain ⟨e1, e3, e4⟩ := hE
      unfold qIH at hH ⊢
      have u1 : qpre P (qsend1 s n c M) k = qpre P M k := by
        unfold qpre
        rw [qmany_eq h1, qsend1_uo (by omega), qsend1_L (by omega), qsend1_L (by omega), qsend1_L (by omega), qsend1_L (by omega), qsend1_S (k := 148 + qsk P k) (by omega) (by omega), qsend1_S (k := 74 + qco P k (qmany M)) (by omega) (by omega)]
      rw [u1, qmany_eq h1, qsend1_S (k := 144 + qown k (qmany M)) (by omega) (by omega), qsend1_S (k := 102 + k) (by omega) (by omega), qsend1_S (k := 70 + k % 4) (by omega) (by omega), qsend1_S (k := 98 + k % 4) (by omega) (by omega)]
      refine ⟨?_, hH.2.1, ?_⟩
      case refine_2 => rw [qsend1_L (by omega), qsend1_L (by omega), qsend1_S (by omega) (by omega), qsend1_S (by omega) (by omega)]; exact hH.2.2
      by_cases hkn : qkey P n = k
      · have hks : k % 4 = s := by omega
        have hlc : qlc P M (qown k (qmany M)) (k % 4) := by
          unfold qlc qlr qns
          rw [if_pos k4, if_pos k4]
          omega
        obtain ⟨g1, g2, g3, g4, g5, g6⟩ := e1 (qown k (qmany M)) (k % 4) (by omega) (by omega) hlc
        have es : qsrc M (qown k (qmany M)) (k % 4) = M.1 (70 + s) := by unfold qsrc; rw [if_pos k4, hks]
        have hcc3 : qci k (qmany M) = c := by rw [← hkn]; exact hcc
        have hcc2 : 4 * qown k (qmany M) + k % 4 = c := hcc3
        rw [es, hcc2] at g2 g3
        rw [hcc2] at g1
        unfold qpri at hH ⊢
        rw [hcc3] at hH
        rw [qmany_eq h1, hcc3, qsend1_up g1, qsend1_L (d := 30 + c) (by omega), qsend1_S (k := 74 + c) (by omega) (by omega), hks, qsend1_13, hq]
        rw [hks, hq] at hH
        have h02 := hO.2.1 s h4
        have h03 := hO.2.2.1 c (by omega)
        by_cases hp : M.1 (70 + s) = 1
        · rw [if_pos hp] at hH ⊢
          by_cases hf : M.1 (74 + c) = 1
          · rw [if_pos hf] at hH ⊢; exact hH.1
          · rw [if_neg hf] at hH ⊢
            rw [if_neg (g2.mpr ⟨hp, by omega⟩)]; exact hH.1
        · have hf : ¬ M.1 (74 + c) = 1 := fun h => hp (g3 h)
          have hb : M.2.2 c = -1 := by
            apply Decidable.byContradiction
            intro h
            exact hp (g2.mp h).1
          rw [if_neg hp, if_neg hf] at hH ⊢
          rw [if_pos hb, qf_app, show ((q : Int) + 1).toNat = q + 1 from by omega]
          rw [qup_none hb, Int.toNat_natCast, hstep k hks] at hH
          simp only [List.append_assoc] at hH ⊢
          exact hH.1
      · have u2 : qpri P (qsend1 s n c M) k = qpri P M k := by
          unfold qpri
          rw [qmany_eq h1, hfo k hkn, hfu k hkn, qsend1_S (k := 74 + qci k (qmany M)) (by omega) (by omega)]
        rw [u2]
        by_cases hks : k % 4 = s
        · rw [hks, qsend1_13, hq]
          rw [hks, hq] at hH
          by_cases hp : M.1 (70 + s) = 1
          · rw [if_pos hp] at hH ⊢; exact hH.1
          · rw [if_neg hp] at hH ⊢
            rw [Int.toNat_natCast, hstep k hks, qf_neg hkn, List.nil_append] at hH
            rw [show ((q : Int) + 1).toNat = q + 1 from by omega]
            exact hH.1
        · rw [qsend1_S (k := 13 + k % 4) (by omega) (by omega)]; exact hH.1
  · intro r x hr hx h
    rw [qlc_eq h1] at h
    rw [qsend1_S (by omega) (by omega), qsend1_B]
    exact hX r x hr hx h
  · intro h
    rw [qsend1_S (by omega) (by omega)] at h
    refine ⟨fun j hj => ?_, fun d hd => ?_⟩
    · rw [qsend1_S (by omega) (by omega)]; exact (hC h).1 j hj
    · rw [qsend1_L (by omega)]; exact (hC h).2 d hd
  · intro h
    rw [qsend1_S (by omega) (by omega)] at h ⊢
    exact hC2 h
  · rw [qlr_eq h1] at hl
    rw [qns_eq h1, qsend1_S (k := 69) (by omega) (by omega), qsend1_S (k := 144 + r) (by omega) (by omega)]
    obtain ⟨a, b⟩ := hW (by rw [qsend1_S (by omega) (by omega)] at h67; exact h67) r hr hl
    refine ⟨fun u v => ?_, fun u v => b u (fun x hx => ?_)⟩
    · obtain ⟨x, hx, hx2⟩ := a u v
      exact ⟨x, hx, by rw [qsend1_S (by omega) (by omega)]; exact hx2⟩
    · have := v x hx
      rw [qsend1_S (by omega) (by omega)] at this
      exact this
