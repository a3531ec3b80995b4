/-! The reference's steps: noting, closing, beginning, showing. -/
/-- noting, half way: sums, barriers -/
def rNS (M : qM) (i t : Nat) : Nat → Int := fun k => if 102 ≤ k ∧ k < 102 + t ∧ qown (k - 102) (qmany M) = i then M.1 (k - 85) else pS M k
def rNR (P : qP) (M : qM) (i t : Nat) : Nat → List Int := fun c => if 16 ≤ c ∧ c < 16 + 4 * t ∧ c % 4 = i then pR P M c ++ [-1] else pR P M c
theorem rNS_p {M : qM} {i t k : Nat} (h : 102 ≤ k ∧ k < 102 + t ∧ qown (k - 102) (qmany M) = i) : rNS M i t k = M.1 (k - 85) := if_pos h
theorem rNS_n {M : qM} {i t k : Nat} (h : ¬ (102 ≤ k ∧ k < 102 + t ∧ qown (k - 102) (qmany M) = i)) : rNS M i t k = pS M k := if_neg h
theorem rNR_p {P : qP} {M : qM} {i t c : Nat} (h : 16 ≤ c ∧ c < 16 + 4 * t ∧ c % 4 = i) : rNR P M i t c = pR P M c ++ [-1] := if_pos h
theorem rNR_n {P : qP} {M : qM} {i t c : Nat} (h : ¬ (16 ≤ c ∧ c < 16 + 4 * t ∧ c % 4 = i)) : rNR P M i t c = pR P M c := if_neg h
section RS
variable {σ : zS} {m : Nat} {A : Nat → Int32} {S : Nat → Int} {R : Nat → List Int} {P : qP} {M : qM}
theorem ra_w {x v : Int} (i : Nat) (h : rsh σ m) (hx : x = i) (hi : i < 144) : zsI (rput σ m A) (m + 4) (zi x) (zi v) = some (rput σ m (qu A i (zi v))) := wr_A i h hx (by omega)
theorem f_ownerOf2 {k n : Nat} (h : rsh σ m) (hA : RA A S R) (hn : S 1 = n) (h4 : 1 ≤ n ∧ n ≤ 4) (hk : k < 16) : fX10_ownerOf (rput σ m A) m (zi k) = some (rput σ m A, zi (qown k n)) := by
  unfold fX10_ownerOf
  rw [rd_now h, Option.bind_some, ra_S 1 h hA (by omega) (by omega), Option.bind_some, hn, zi_mod (by omega) (by omega) (by omega) (by omega), show (k : Int) % 8 = ((k % 8 : Nat) : Int) from rfl, f_ownerAmong (by omega) h4.2, Option.bind_some]
  rfl
theorem pS_many (hN : qN P M) : pS M 1 = (qmany M : Int) := by
  rw [pS_lo (by omega)]
  unfold qmany
  have := hN.1
  omega
theorem ra_notes {i : Nat} (h : rsh σ m) (hs : rset σ m P) (hP : qPok P) (hN : qN P M) (hlen : ∀ c, c < 24 → (M.2.1 c).length ≤ 800) (hA : RM A P M) (hi : i < qmany M) (hb : ∀ k, k < P.2.1 → M.2.2 (4 * (4 + k) + i) = -1) : ∃ B, fX10_notes (rput σ m A) m (zi i) = some (rput σ m B) ∧ RM B P (qcut P i M) := by
  have h4 := qN_many hN
  have hk2 := hP.2.2.2.1
  obtain ⟨B, e1, hB⟩ := rfor (σ := σ) (m := m) (step := sX10_notes_2 m (zi i)) 0 16 (fun t B => RA B (rNS M i t) (pR P M)) (fun t B _ ht hB => by
    have hn : rNS M i t 1 = (qmany M : Int) := by
      rw [rNS_n (by omega)]; exact pS_many hN
    have ho := f_ownerOf2 (k := t) h hB hn h4 ht
    have o4 := (qown_lt (k := t) h4.1)
    by_cases e : qown t (qmany M) = i
    · refine ⟨qu B (102 + t) (zi (M.1 (17 + t))), ?_, ?_⟩
      · unfold sX10_notes_2 sX10_notes_2b
        dsimp only
        rw [if_neg (zi_nle (by omega) (by omega) (by omega)), rd_ck h, ho, Option.bind_some, if_pos (by rw [e]), rd_now h, Option.bind_some, Option.bind_some, zi_add, ra_S (17 + t) h hB (by omega) (by omega), Option.bind_some, rNS_n (by omega), pS_lo (by omega), zi_add, ra_w (102 + t) h (by omega) (by omega), Option.bind_some]
        rfl
      · refine RA_congr (RA_S hB (i := 102 + t) (v := M.1 (17 + t)) (by omega)) (fun k hk => ?_) (fun _ _ => rfl)
        by_cases ek : k = 102 + t
        · subst ek
          rw [qu_at, rNS_p ⟨by omega, by omega, by rw [show 102 + t - 102 = t from by omega]; exact e⟩, show 102 + t - 85 = 17 + t from by omega]
        · rw [qu_ne ek]
          by_cases e2 : 102 ≤ k ∧ k < 102 + t ∧ qown (k - 102) (qmany M) = i
          · rw [rNS_p e2, rNS_p (by omega)]
          · rw [rNS_n e2, rNS_n (by omega)]
    · refine ⟨B, ?_, ?_⟩
      · unfold sX10_notes_2 sX10_notes_2b
        dsimp only
        rw [if_neg (zi_nle (by omega) (by omega) (by omega)), rd_ck h, ho, Option.bind_some, if_neg (by rw [zi_eq (by omega) (by omega) (by omega) (by omega)]; omega)]
        rfl
      · refine RA_congr hB (fun k hk => ?_) (fun _ _ => rfl)
        by_cases e2 : 102 ≤ k ∧ k < 102 + t ∧ qown (k - 102) (qmany M) = i
        · rw [rNS_p e2, rNS_p (by omega)]
        · rw [rNS_n e2, rNS_n]
          intro hq
          by_cases ek : k = 102 + t
          · subst ek
            rw [show 102 + t - 102 = t from by omega] at hq
            exact e hq.2.2
          · exact e2 (by omega)) (fun B _ => by
    unfold sX10_notes_2 sX10_notes_2b
    exact if_pos (zi_yle (by omega) (by omega) (by omega))) (by omega) (by omega) (x := 0) rfl (A := A) (RA_congr hA (fun k hk => by rw [rNS_n (by omega)]) (fun _ _ => rfl))
  have hcl : ∀ k, k < 2 → (pR P M (4 * (4 + k) + i)).length ≤ 801 := fun k hk => by
    have := (hA.2 (4 * (4 + k) + i) (by omega)).2.1
    rw [rcap_c (by omega)] at this
    exact this
  obtain ⟨C, e2, hC⟩ := rfor (σ := σ) (m := m) (step := sX10_notes_43 m (zi i)) 0 P.2.1 (fun t B => RA B (rNS M i 16) (rNR P M i t)) (fun t B _ ht hB => by
    have e1 : rNR P M i t (4 * (4 + t) + i) = pR P M (4 * (4 + t) + i) := rNR_n (by omega)
    have hlen : (pR P M (4 * (4 + t) + i)).length ≤ 800 := by
      rw [pR_ch (by omega), hb t ht, qins_none, List.length_map]
      exact hlen _ (by omega)
    obtain ⟨B2, eB, hB2⟩ := ra_adds (v := -1) (4 * (4 + t) + i) h hB rfl (by omega) (by rw [e1, rcap_c (by omega)]; omega)
    refine ⟨B2, ?_, ?_⟩
    · unfold sX10_notes_43 sX10_notes_43b
      dsimp only
      rw [rd_snk h hs, Option.bind_some, if_neg (zi_nle (by omega) (by omega) (by omega)), f_toSink (by omega) (by omega), Option.bind_some, rd_ck h, eB, Option.bind_some]
    · rw [e1] at hB2
      refine RA_congr hB2 (fun _ _ => rfl) (fun c hc => ?_)
      by_cases ec : c = 4 * (4 + t) + i
      · subst ec
        rw [qu_at, rNR_p (by omega)]
      · rw [qu_ne ec]
        by_cases e3 : 16 ≤ c ∧ c < 16 + 4 * t ∧ c % 4 = i
        · rw [rNR_p e3, rNR_p (by omega)]
        · rw [rNR_n e3, rNR_n (by omega)]) (fun B _ => by
    unfold sX10_notes_43 sX10_notes_43b
    dsimp only
    rw [rd_snk h hs, Option.bind_some, if_pos (zi_yle (by omega) (by omega) (by omega))]) (by omega) (by omega) (x := 0) rfl (A := B) (RA_congr hB (fun k hk => rfl) (fun c hc => by rw [rNR_n (by omega)]))
  refine ⟨C, ?_, RA_congr hC (fun k hk => ?_) (fun c hc => ?_)⟩
  · unfold fX10_notes
    rw [e1, Option.bind_some, e2, Option.bind_some]
  · have hq : ∀ j, (qcut P i M).1 j = if 102 ≤ j ∧ j < 118 ∧ qown (j - 102) (qmany M) = i then M.1 (j - 85) else if j = 144 + i then 1 else M.1 j := fun j => by
      unfold qcut
      rw [if_pos (show i < 4 from by omega)]
    by_cases hk2 : k < 98
    · rw [rNS_n (by omega)]
      unfold pS
      simp only [hq]
      repeat' split
      all_goals first | rfl | omega
    · rw [pS_lo (by omega), hq]
      by_cases e3 : 102 ≤ k ∧ k < 102 + 16 ∧ qown (k - 102) (qmany M) = i
      · rw [rNS_p e3, if_pos e3]
      · rw [rNS_n e3, if_neg e3, if_neg (by omega), pS_lo (by omega)]
  · have hL : (qcut P i M).2.1 = M.2.1 := by
      unfold qcut
      rw [if_pos (show i < 4 from by omega)]
    have hq : ∀ d, (qcut P i M).2.2 d = if 16 ≤ d ∧ d < 16 + 4 * P.2.1 ∧ d % 4 = i then ((M.2.1 d).length : Int) else M.2.2 d := fun d => by
      unfold qcut
      rw [if_pos (show i < 4 from by omega)]
    by_cases e3 : 16 ≤ c ∧ c < 16 + 4 * P.2.1 ∧ c % 4 = i
    · have hb2 := hb (c / 4 - 4) (by omega)
      rw [show 4 * (4 + (c / 4 - 4)) + i = c from by omega] at hb2
      rw [rNR_p e3, pR_ch (by omega), pR_ch (by omega), hb2, qins_none, hL, hq, if_pos e3, ← List.length_map (as := M.2.1 c) (qen P c), qins_end]
    · rw [rNR_n e3]
      refine (pR_same (by rw [hL]) (fun _ => ?_)).symm
      rw [hq, if_neg e3]
end RS
