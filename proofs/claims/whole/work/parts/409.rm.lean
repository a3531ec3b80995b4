theorem qen_ls {P : qP} {c d n : Nat} (h1 : 16 ≤ c) (h2 : 16 ≤ d) : qen P c n = qen P d n := by
  unfold qen
  rw [if_neg (by omega), if_neg (by omega)]
theorem map_qen {P : qP} {c d : Nat} (l : List Nat) (h1 : 16 ≤ c) (h2 : 16 ≤ d) : l.map (qen P c) = l.map (qen P d) := List.map_congr_left (fun _ _ => qen_ls h1 h2)
theorem qch_lo {c : Nat} (h : c < 30) : qch c = c := if_pos h
/-- showing, half way -/
def rSR (P : qP) (M : qM) (t : Nat) : Nat → List Int := fun c => if 28 ≤ c ∧ c < 28 + t then pR P M c ++ pR P M (c - 2) else if 26 ≤ c ∧ c < 26 + t then [] else pR P M c
theorem rSR_28 {P : qP} {M : qM} {t c : Nat} (h : 28 ≤ c ∧ c < 28 + t) : rSR P M t c = pR P M c ++ pR P M (c - 2) := if_pos h
theorem rSR_26 {P : qP} {M : qM} {t c : Nat} (h : 26 ≤ c ∧ c < 26 + t) (h2 : c < 28) : rSR P M t c = [] := (if_neg (by omega)).trans (if_pos h)
theorem rSR_n {P : qP} {M : qM} {t c : Nat} (h : ¬ (28 ≤ c ∧ c < 28 + t)) (h2 : ¬ (26 ≤ c ∧ c < 26 + t)) : rSR P M t c = pR P M c := (if_neg h).trans (if_neg h2)
section RS
variable {σ : zS} {m : Nat} {A : Nat → Int32} {S : Nat → Int} {R : Nat → List Int} {P : qP} {M : qM}
theorem pR_cap (hI : qI P M) {c : Nat} (h1 : 24 ≤ c) (h2 : c < 30) : (pR P M c).length ≤ 800 := by
  rw [pR_ls h1, List.length_map]
  exact (qI_len hI h2).1
theorem qcut_sink {k : Nat} : qcut P (4 + k) M = (qu M.1 (148 + k) 1, qu (qu M.2.1 (26 + k) (M.2.1 (26 + k) ++ M.2.1 (24 + k))) (24 + k) [], M.2.2) := by
  unfold qcut
  rw [if_neg (by omega), show 144 + (4 + k) = 148 + k from by omega, show 22 + (4 + k) = 26 + k from by omega, show 20 + (4 + k) = 24 + k from by omega]
theorem ra_closes {k : Nat} (h : rsh σ m) (hlen : (M.2.1 (24 + k)).length ≤ 800) (hA : RM A P M) (hk : k < 2) (he : M.2.1 (26 + k) = []) : ∃ B, fX10_closes (rput σ m A) m (zi k) = some (rput σ m B) ∧ RM B P (qcut P (4 + k) M) := by
  obtain ⟨B, e1, hB⟩ := ra_becomes (24 + k) (26 + k) h hA rfl rfl (by omega) (by omega) (by omega) (Nat.le_trans (by rw [pR_ls (by omega), List.length_map]; exact hlen) (rcap_b (by omega)))
  obtain ⟨C, e2, hC⟩ := ra_empties (24 + k) h hB rfl (by omega)
  refine ⟨C, ?_, RA_congr hC (fun j hj => ?_) (fun c hc => ?_)⟩
  · unfold fX10_closes
    rw [f_closed hk, Option.bind_some, f_open hk, Option.bind_some, rd_ck h, e1, Option.bind_some, f_open hk, Option.bind_some, rd_ck h, e2, Option.bind_some]
  · rw [qcut_sink]
    exact (pS_same (fun i hi => qu_ne (by omega)) j hj).symm
  · rw [qcut_sink]
    by_cases e : c = 24 + k
    · subst e
      rw [qu_at, pR_ls (by omega)]
      dsimp only
      rw [qu_at]
      rfl
    · rw [qu_ne e]
      by_cases e2 : c = 26 + k
      · subst e2
        rw [qu_at, pR_ls (by omega), pR_ls (by omega)]
        dsimp only
        rw [qu_ne (by omega), qu_at, he, List.nil_append]
        unfold qch
        rw [if_pos (by omega), if_pos (by omega)]
        apply List.map_congr_left
        intro n _
        unfold qen
        rw [if_neg (by omega), if_neg (by omega)]
      · rw [qu_ne e2]
        refine Eq.symm (pR_same (M := M) ?_ (fun _ => rfl))
        dsimp only
        rw [qu_ne e, qu_ne e2]
theorem RA_S0 {i : Nat} {v : Int} (hA : RA A S R) (hi : i < 144) : RA (qu A i (zi v)) (qu S i v) R := RA_S hA hi
theorem ra_begins {o : Int} (h : rsh σ m) (hA : RM A P M) : ∃ B, fX10_begins (rput σ m A) m (zi o) = some (rput σ m B) ∧ RM B P (qbegin o M) := by
  have a1 := RA_S0 (i := 5) (v := pS M 5 + 1) hA (by omega)
  have a2 := RA_S0 (i := 67) (v := 1) a1 (by omega)
  have a3 := RA_S0 (i := 68) (v := pS M 0) a2 (by omega)
  have a4 := RA_S0 (i := 69) (v := o) a3 (by omega)
  generalize hS : qu (qu (qu (qu (pS M) 5 (pS M 5 + 1)) 67 1) 68 (pS M 0)) 69 o = S4 at a4
  obtain ⟨B, e1, hB⟩ := rfor (σ := σ) (m := m) (step := sX10_begins_46 m) 70 118 (fun t B => RA B (fun k => if 70 ≤ k ∧ k < t then 0 else S4 k) (pR P M)) (fun t B h1 ht hB => by
    refine ⟨qu B t (zi 0), ?_, RA_congr (RA_S hB (i := t) (v := 0) (by omega)) (fun k hk => ?_) (fun _ _ => rfl)⟩
    · unfold sX10_begins_46 sX10_begins_46b
      dsimp only
      rw [if_neg (zi_nle (by omega) (by omega) (by omega)), rd_now h, Option.bind_some, ra_w t h rfl (by omega), Option.bind_some]
    · by_cases e : k = t
      · subst e; rw [qu_at, if_pos (by omega)]
      · rw [qu_ne e]
        by_cases e2 : 70 ≤ k ∧ k < t
        · rw [if_pos e2, if_pos (by omega)]
        · rw [if_neg e2, if_neg (by omega)]) (fun B _ => by
    unfold sX10_begins_46 sX10_begins_46b
    exact if_pos (zi_yle (by omega) (by omega) (by omega))) (by omega) (by omega) (x := 70) rfl (RA_congr a4 (fun k _ => by rw [if_neg (by omega)]) (fun _ _ => rfl))
  obtain ⟨C, e2, hC⟩ := ra_emptiesKept h hB
  refine ⟨C, ?_, RA_congr hC (fun k hk => ?_) (fun c hc => ?_)⟩
  · unfold fX10_begins
    rw [rd_now h, Option.bind_some, Option.bind_some, ra_S 5 h hA (by omega) (by omega), Option.bind_some, zi_add, ra_w 5 h (by omega) (by omega), Option.bind_some, rd_now h, Option.bind_some, ra_w 67 h (by omega) (by omega), Option.bind_some, rd_now h, Option.bind_some, Option.bind_some, ra_S 0 h a2 (by omega) (by omega), Option.bind_some, qu_ne (by omega), qu_ne (by omega), ra_w 68 h (by omega) (by omega), Option.bind_some, rd_now h, Option.bind_some, ra_w 69 h (by omega) (by omega), Option.bind_some, e1, Option.bind_some, rd_ck h, e2, Option.bind_some]
  · by_cases h70 : 70 ≤ k ∧ k < 118
    · rw [if_pos h70]
      have hq : ∀ j, 70 ≤ j → j < 118 → (qbegin o M).1 j = 0 := fun j h1 h2 => qbegin_hi (by omega)
      unfold pS
      rw [if_neg (by omega), if_neg (by omega), if_neg (by omega), if_neg (by omega)]
      repeat' split
      all_goals exact (hq _ (by omega) (by omega)).symm
    · rw [if_neg h70, ← hS]
      by_cases e69 : k = 69
      · subst e69; rw [qu_at, pS_lo (by omega)]; rfl
      · rw [qu_ne e69]
        by_cases e68 : k = 68
        · subst e68; rw [qu_at, pS_lo (by omega), pS_lo (by omega)]; rfl
        · rw [qu_ne e68]
          by_cases e67 : k = 67
          · subst e67; rw [qu_at, pS_lo (by omega)]; rfl
          · rw [qu_ne e67]
            by_cases e5 : k = 5
            · subst e5; rw [qu_at, pS_lo (by omega), pS_lo (by omega)]; rfl
            · rw [qu_ne e5]
              have hq : ∀ j, (j < 67 ∨ 118 ≤ j) → j < 144 → j ≠ 5 → (qbegin o M).1 j = M.1 j := fun j h1 h2 h3 => qbegin_lo h1 h2 h3
              unfold pS
              repeat' split
              all_goals first | omega | rw [hq _ (by omega) (by omega) (by omega)]
  · by_cases e : 30 ≤ c ∧ c < 54
    · obtain ⟨d, rfl⟩ : ∃ d, c = 30 + d := ⟨c - 30, by omega⟩
      rw [Rt_all (by omega), pR_ls (by omega), qbegin_K e]
      rfl
    · rw [Rt_out (by omega)]
      exact (pR_same (qbegin_L (by omega)) (fun _ => rfl)).symm
theorem ra_shows (h : rsh σ m) (hs : rset σ m P) (hI : qI P M) (hA : RM A P M) : ∃ B, fX10_shows (rput σ m A) m = some (rput σ m B) ∧ RM B P (qshow P M) := by
  obtain ⟨a1, a2, a3, a4, a5, a6, a7, a8, a9, a10, a11, a12, a13, a14⟩ := hI.1.2.1
  have hk2 := hI.1.1.2.2.2.1
  by_cases hh : qhid M
  · have b1 := RA_S0 (i := 123) (v := 1) hA (by omega)
    have hpost := qI_show hI
    obtain ⟨B, e1, hB⟩ := rfor (σ := σ) (m := m) (step := sX10_shows_32 m) 0 P.2.1 (fun t B => RA B (qu (pS M) 123 1) (rSR P M t)) (fun t B _ ht hB => by
      have q26 : rSR P M t (26 + t) = pR P M (26 + t) := rSR_n (by omega) (by omega)
      have q28 : rSR P M t (28 + t) = pR P M (28 + t) := rSR_n (by omega) (by omega)
      have hl : (pR P M (28 + t)).length + (pR P M (26 + t)).length ≤ 800 := by
        have := (qI_len hpost (c := 28 + t) (by omega)).1
        rw [qshow_28 hI.1.1 hh ht, List.length_append] at this
        rw [pR_ls (by omega), pR_ls (by omega), List.length_map, List.length_map]
        exact this
      obtain ⟨C, eC, hC⟩ := ra_addsAll (26 + t) (28 + t) h hB rfl rfl (by omega) (by omega) (by omega) (by rw [q26, q28]; exact Nat.le_trans hl (rcap_b (by omega)))
      obtain ⟨D, eD, hD⟩ := ra_empties (26 + t) h hC rfl (by omega)
      refine ⟨D, ?_, RA_congr hD (fun _ _ => rfl) (fun c hc => ?_)⟩
      · unfold sX10_shows_32 sX10_shows_32b
        dsimp only
        rw [rd_snk h hs, Option.bind_some, if_neg (zi_nle (by omega) (by omega) (by omega)), f_closed (by omega), Option.bind_some, f_shown (by omega), Option.bind_some, rd_ck h, eC, Option.bind_some, f_closed (by omega), Option.bind_some, rd_ck h, eD, Option.bind_some]
      · by_cases e : c = 26 + t
        · subst e; rw [qu_at, rSR_26 (by omega) (by omega)]
        · rw [qu_ne e]
          by_cases e2 : c = 28 + t
          · subst e2; rw [qu_at, q26, q28, rSR_28 (by omega), show 28 + t - 2 = 26 + t from by omega]
          · rw [qu_ne e2]
            by_cases c1 : 28 ≤ c ∧ c < 28 + t
            · rw [rSR_28 c1, rSR_28 (by omega)]
            · by_cases c2 : 26 ≤ c ∧ c < 26 + t
              · rw [rSR_26 c2 (by omega), rSR_26 (by omega) (by omega)]
              · rw [rSR_n c1 c2, rSR_n (by omega) (by omega)]) (fun B _ => by
      unfold sX10_shows_32 sX10_shows_32b
      dsimp only
      rw [rd_snk h hs, Option.bind_some, if_pos (zi_yle (by omega) (by omega) (by omega))]) (by omega) (by omega) (x := 0) rfl (RA_congr b1 (fun _ _ => rfl) (fun c _ => by rw [rSR_n (by omega) (by omega)]))
    refine ⟨B, ?_, RA_congr hB (fun k hk => ?_) (fun c hc => ?_)⟩
    · unfold fX10_shows
      rw [rd_now h, Option.bind_some, ra_S 118 h hA (by omega) (by omega), Option.bind_some, pS_lo (by omega), hh.1, if_neg (by decide), Option.bind_some, ra_S 123 h hA (by omega) (by omega), Option.bind_some, pS_lo (by omega), hh.2, if_neg (by decide), Option.bind_some, ra_w 123 h (by omega) (by omega), Option.bind_some, e1, Option.bind_some]
    · by_cases e : k = 123
      · subst e
        rw [qu_at, pS_lo (by omega)]
        unfold qshow
        rw [if_pos hh]
        exact (qu_at M.1 123 1).symm
      · rw [qu_ne e]
        unfold pS
        repeat' split
        all_goals first | omega | rw [qshow_S (by omega)]
    · unfold qshow
      rw [if_pos hh]
      by_cases c1 : 28 ≤ c ∧ c < 28 + P.2.1
      · rw [rSR_28 c1, pR_ls (by omega), pR_ls (by omega), pR_ls (by omega)]
        dsimp only
        rw [if_pos c1, List.map_append, qch_lo (by omega), qch_lo (by omega), map_qen (c := c - 2) (d := c) _ (by omega) (by omega)]
      · by_cases c2 : 26 ≤ c ∧ c < 26 + P.2.1
        · rw [rSR_26 c2 (by omega), pR_ls (by omega)]
          dsimp only
          rw [if_neg c1, if_pos c2]
          rfl
        · rw [rSR_n c1 c2]
          refine Eq.symm (pR_same (M := M) ?_ (fun _ => rfl))
          dsimp only
          rw [if_neg c1, if_neg c2]
  · rw [qshow_no hh]
    refine ⟨A, ?_, hA⟩
    unfold fX10_shows
    rw [rd_now h, Option.bind_some, ra_S 118 h hA (by omega) (by omega), Option.bind_some, pS_lo (by omega)]
    rcases a9 with e | e
    · rw [e, if_pos rfl]
    · rw [e, if_neg (by decide), Option.bind_some, ra_S 123 h hA (by omega) (by omega), Option.bind_some, pS_lo (by omega)]
      rcases a10 with e2 | e2
      · exact absurd ⟨e, e2⟩ hh
      · rw [e2, if_pos rfl]
end RS
