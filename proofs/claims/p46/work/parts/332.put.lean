/-! A source puts its barriers. -/
def qput1 (s : Nat) (M : qM) : qM := (qu (qu M.1 (70 + s) 1) (98 + s) (M.1 (13 + s)), M.2.1, fun c => if c % 4 = s ∧ c / 4 < qmany M then ((M.2.1 c).length : Int) else M.2.2 c)
theorem qput1_S {s k : Nat} {M : qM} (h : k ≠ 70 + s) (h2 : k ≠ 98 + s) : (qput1 s M).1 k = M.1 k := (qu_ne h2).trans (qu_ne h)
theorem qput1_70 {s : Nat} {M : qM} : (qput1 s M).1 (70 + s) = 1 := (qu_ne (by omega)).trans (qu_at _ _ _)
theorem qput1_98 {s : Nat} {M : qM} : (qput1 s M).1 (98 + s) = M.1 (13 + s) := qu_at _ _ _
theorem qput1_L {s : Nat} {M : qM} : (qput1 s M).2.1 = M.2.1 := rfl
theorem qput1_B {s c : Nat} {M : qM} (h : ¬ (c % 4 = s ∧ c / 4 < qmany M)) : (qput1 s M).2.2 c = M.2.2 c := if_neg h
theorem qput1_Bs {s c : Nat} {M : qM} (h : c % 4 = s ∧ c / 4 < qmany M) : (qput1 s M).2.2 c = (M.2.1 c).length := if_pos h
theorem qI_put {P : qP} {M : qM} {s : Nat} (hI : qI P M) (hs : s < P.1) (hno : ¬ qhid M) : qI P (qput s M) := by
  unfold qput
  split
  case isFalse => exact hI
  rename_i hc
  obtain ⟨h67, h70, -⟩ := hc
  show qI P (qput1 s M)
  obtain ⟨⟨hP, hN, hV, hFG, hZ, hOn, hX, hC, hC2⟩, hW⟩ := hI
  obtain ⟨hO, hE, hH⟩ := hOn h67
  have h4 : s < 4 := by have := hP.2.1; omega
  have h1 : (qput1 s M).1 1 = M.1 1 := qput1_S (by omega) (by omega)
  have hm := qN_many hN
  have hk := qix hP hN
  have hno2 : ¬ qhid (qput1 s M) := by
    unfold qhid
    rw [qput1_S (by omega) (by omega), qput1_S (by omega) (by omega)]
    exact hno
  refine ⟨⟨hP, ?_, ?_, fun k hk16 => ⟨?_, ?_⟩, ?_, fun _ => ⟨?_, ?_, fun k hk16 => ?_⟩, ?_, ?_, ?_⟩, fun h67 r hr hl => ?_⟩
  · obtain ⟨a1, a2, a3, a4, a5, a6, a7, a8, a9, a10, a11, a12, a13, a14⟩ := hN
    refine ⟨?_, ?_, ?_, ?_, ?_, ?_, ?_, ?_, ?_, ?_, ?_, ?_, ?_, ?_⟩
    · rw [h1]; exact a1
    · rw [qput1_S (by omega) (by omega)]; exact a2
    · rw [qput1_S (by omega) (by omega)]; exact a3
    · rw [qput1_S (by omega) (by omega)]; exact a4
    · intro s hs; rw [qput1_S (by omega) (by omega)]; exact a5 s hs
    · intro s hs; rw [qput1_S (by omega) (by omega)]; exact a6 s hs
    · intro s hs; rw [qput1_S (by omega) (by omega)]; exact a7 s hs
    · rw [qput1_S (by omega) (by omega)]; exact a8
    · rw [qput1_S (by omega) (by omega)]; exact a9
    · rw [qput1_S (by omega) (by omega)]; exact a10
    · rw [qput1_S (by omega) (by omega)]; exact a11
    · intro s hs; rw [qlr_eq h1, qns_eq h1, qput1_S (by omega) (by omega)]; exact a12 s hs
    · intro s hs; rw [qput1_S (by omega) (by omega)]; exact a13 s hs
    · intro s hs; rw [qput1_S (by omega) (by omega)]; exact a14 s hs
  · intro c n hc hn
    rw [qmany_eq h1]
    exact hV c n hc hn
  · exact qIF_congr hP hN h1 (qput1_S (by omega) (by omega)) (qput1_S (by omega) (by omega)) (fun c hc => rfl) (hFG k hk16).1
  · exact qIG_congr hP hN h1 (qbase_congr hP (qput1_S (by omega) (by omega)) (qput1_S (by omega) (by omega)) (fun c _ hc => rfl)) (qput1_S (by omega) (by omega)) (qput1_S (by omega) (by omega)) (fun c h54 hc => rfl) (hFG k hk16).2
  · intro h
    rw [qput1_S (by omega) (by omega), h67] at h
    cases h
  · obtain ⟨o1, o2, o3, o4, o5, o6, o7, o8, o9, o10⟩ := hO
    refine ⟨?_, ?_, ?_, ?_, ?_, ?_, ?_, ?_, ?_, ?_⟩
    · rw [qput1_S (by omega) (by omega)]; exact o1
    · intro t ht
      by_cases e : t = s
      · subst e; exact Or.inr qput1_70
      · rw [qput1_S (by omega) (by omega)]; exact o2 t ht
    · intro s hs; rw [qput1_S (by omega) (by omega)]; exact o3 s hs
    · intro s hs; rw [qput1_S (by omega) (by omega)]; exact o4 s hs
    · intro t ht
      by_cases e : t = s
      · subst e; rw [qput1_98]; exact hN.2.2.2.2.2.1 t ht
      · rw [qput1_S (by omega) (by omega)]; exact o5 t ht
    · rw [qput1_S (by omega) (by omega)]; exact o6
    · rw [qput1_S (by omega) (by omega), qput1_S (by omega) (by omega)]; exact o7
    · intro t ht h
      by_cases e : t = s
      · omega
      · rw [qput1_S (by omega) (by omega)] at h; exact o8 t ht h
    · intro r x hr hx; rw [qlc_eq h1, qput1_S (by omega) (by omega)]; exact o9 r x hr hx
    · intro s hs; rw [qlr_eq h1, qput1_S (by omega) (by omega)]; exact o10 s hs
  · obtain ⟨e1, e3, e4⟩ := hE
    refine ⟨fun r x hr hx hlc => ?_, fun h => absurd h hno2, fun _ j hj h => ?_⟩
    · rw [qlc_eq h1] at hlc
      obtain ⟨g1, g2, g3, g4, g5, g6⟩ := e1 r x hr hx hlc
      rw [qput1_L, qput1_S (k := 74 + (4 * r + x)) (by omega) (by omega), qput1_S (k := 144 + r) (by omega) (by omega), qput1_S (k := 43 + (4 * r + x)) (by omega) (by omega), qput1_S (k := 69) (by omega) (by omega)]
      by_cases hc : r < 4 ∧ x = s
      · obtain ⟨hr4, rfl⟩ := hc
        have hl : r < qmany M := by have := hlc.1; unfold qlr at this; rw [if_pos hr4] at this; exact this
        have es : qsrc (qput1 x M) r x = 1 := by unfold qsrc; rw [if_pos hr4]; exact qput1_70
        have es0 : qsrc M r x = 0 := by unfold qsrc; rw [if_pos hr4]; exact h70
        have f0 : M.1 (74 + (4 * r + x)) = 0 := by
          rcases hO.2.2.1 (4 * r + x) (by omega) with h | h
          · exact h
          · have := g3 h; omega
        rw [qput1_Bs (by omega), es]
        exact ⟨by omega, ⟨fun _ => ⟨rfl, f0⟩, fun _ => by omega⟩, fun _ => rfl, g4, g5, g6⟩
      · have es : qsrc (qput1 s M) r x = qsrc M r x := by
          unfold qsrc
          split <;> exact qput1_S (by omega) (by omega)
        rw [qput1_B (by omega), es]
        exact ⟨g1, g2, g3, g4, g5, g6⟩
    · rw [qput1_S (by omega) (by omega)] at h
      exact e4 hno j hj h
  · obtain ⟨k1, k2, k3, k4, k5, k6⟩ := hk k
    have hH := hH k hk16
    obtain ⟨e1, e3, e4⟩ := hE
    unfold qIH at hH ⊢
    have u1 : qpre P (qput1 s M) k = qpre P M k := by
      unfold qpre qup
      rw [qmany_eq h1, qput1_B (by omega), qput1_L, qput1_S (k := 148 + qsk P k) (by omega) (by omega), qput1_S (k := 74 + qco P k (qmany M)) (by omega) (by omega)]
    rw [u1, qmany_eq h1, qput1_S (k := 144 + qown k (qmany M)) (by omega) (by omega), qput1_S (k := 102 + k) (by omega) (by omega)]
    refine ⟨?_, hH.2.1, ?_⟩
    case refine_2 => rw [qput1_L, qput1_S (by omega) (by omega), qput1_S (by omega) (by omega)]; exact hH.2.2
    by_cases hc : k % 4 = s
    · have hlc : qlc P M (qown k (qmany M)) (k % 4) := by
        unfold qlc qlr qns
        rw [if_pos k4, if_pos k4]
        omega
      obtain ⟨g1, g2, g3, g4, g5, g6⟩ := e1 (qown k (qmany M)) (k % 4) (by omega) (by omega) hlc
      have es0 : qsrc M (qown k (qmany M)) (k % 4) = 0 := by unfold qsrc; rw [if_pos k4, hc]; exact h70
      have b0 : M.2.2 (qci k (qmany M)) = -1 := by
        rw [k5]
        rcases g1 with h | h
        · exact h
        · have := g2.mp (by omega); omega
      have u2 : qpri P (qput1 s M) k = qpri P M k := by
        unfold qpri
        have : qup (qput1 s M) (qci k (qmany M)) = qup M (qci k (qmany M)) := by
          unfold qup
          rw [qput1_Bs (by omega), if_neg (by omega), b0, if_pos rfl, qput1_L, Int.toNat_natCast, List.take_length]
        rw [qmany_eq h1, this, qput1_L, qput1_S (k := 74 + qci k (qmany M)) (by omega) (by omega)]
      rw [u2, hc, qput1_70, qput1_98, if_pos rfl]
      rw [hc, h70] at hH
      exact hH.1
    · have u2 : qpri P (qput1 s M) k = qpri P M k := by
        unfold qpri qup
        rw [qmany_eq h1, qput1_B (by omega), qput1_L, qput1_S (k := 74 + qci k (qmany M)) (by omega) (by omega)]
      rw [u2, qput1_S (k := 70 + k % 4) (by omega) (by omega), qput1_S (k := 98 + k % 4) (by omega) (by omega), qput1_S (k := 13 + k % 4) (by omega) (by omega)]
      exact hH.1
  · intro r x hr hx h
    rw [qlc_eq h1] at h
    rw [qput1_S (by omega) (by omega), qput1_B (by
      intro hc
      apply h
      unfold qlc qlr qns
      rw [if_pos (by omega), if_pos (by omega)]
      omega)]
    exact hX r x hr hx h
  · intro h
    rw [qput1_S (by omega) (by omega)] at h
    refine ⟨fun j hj => ?_, fun c hc => (hC h).2 c hc⟩
    rw [qput1_S (by omega) (by omega)]; exact (hC h).1 j hj
  · intro h
    rw [qput1_S (by omega) (by omega)] at h ⊢
    exact hC2 h
  · rw [qlr_eq h1] at hl
    rw [qns_eq h1, qput1_S (k := 69) (by omega) (by omega), qput1_S (k := 144 + r) (by omega) (by omega)]
    obtain ⟨a, b⟩ := hW (by rw [qput1_S (by omega) (by omega)] at h67; exact h67) r hr hl
    refine ⟨fun u v => ?_, fun u v => b u (fun x hx => ?_)⟩
    · obtain ⟨x, hx, hx2⟩ := a u v
      exact ⟨x, hx, by rw [qput1_S (by omega) (by unfold qns at hx; have := hP.2.1; split at hx <;> omega)]; exact hx2⟩
    · have := v x hx
      rw [qput1_S (by omega) (by unfold qns at hx; have := hP.2.1; split at hx <;> omega)] at this
      exact this
