/-- completing: the numbers, half way through the noted ones -/
def rCS (S0 : Nat → Int) (t u : Nat) : Nat → Int := fun k => if 124 ≤ k ∧ k < 124 + t ∧ k < 128 then S0 (k - 26) else if 128 ≤ k ∧ k < 128 + u then S0 (k - 26) else S0 k
theorem rCS_a {S0 : Nat → Int} {t u k : Nat} (h : 124 ≤ k ∧ k < 124 + t ∧ k < 128) : rCS S0 t u k = S0 (k - 26) := if_pos h
theorem rCS_b {S0 : Nat → Int} {t u k : Nat} (h : 128 ≤ k ∧ k < 128 + u) : rCS S0 t u k = S0 (k - 26) := (if_neg (by omega)).trans (if_pos h)
theorem rCS_n {S0 : Nat → Int} {t u k : Nat} (h : ¬ (124 ≤ k ∧ k < 124 + t ∧ k < 128)) (h2 : ¬ (128 ≤ k ∧ k < 128 + u)) : rCS S0 t u k = S0 k := (if_neg h).trans (if_neg h2)
section RZ
variable {σ : zS} {m : Nat} {A : Nat → Int32} {S : Nat → Int} {R : Nat → List Int} {P : qP} {M N : qM}
theorem ra_completes (h : rsh σ m) (hA : RM A P M) : ∃ B, fX10_completes (rput σ m A) m = some (rput σ m B) ∧ RM B P (qcomplete M) := by
  have a1 := RA_S0 (i := 67) (v := 0) hA (by omega)
  have a2 := RA_S0 (i := 6) (v := M.1 6 + 1) a1 (by omega)
  have a3 := RA_S0 (i := 118) (v := 1) a2 (by omega)
  have a4 := RA_S0 (i := 119) (v := M.1 5) a3 (by omega)
  have a5 := RA_S0 (i := 120) (v := M.1 68) a4 (by omega)
  have a6 := RA_S0 (i := 121) (v := M.1 0) a5 (by omega)
  have a7 := RA_S0 (i := 122) (v := M.1 69) a6 (by omega)
  have a8 := RA_S0 (i := 123) (v := 0) a7 (by omega)
  have p6 : pS M 6 = M.1 6 := pS_lo (by omega)
  have p5 : pS M 5 = M.1 5 := pS_lo (by omega)
  have p68 : pS M 68 = M.1 68 := pS_lo (by omega)
  have p0 : pS M 0 = M.1 0 := pS_lo (by omega)
  have p69 : pS M 69 = M.1 69 := pS_lo (by omega)
  have r6 := ra_S (σ := σ) (m := m) (x := 6) 6 h a1 (by omega) (by omega)
  have r5 := ra_S (σ := σ) (m := m) (x := 5) 5 h a3 (by omega) (by omega)
  have r68 := ra_S (σ := σ) (m := m) (x := 68) 68 h a4 (by omega) (by omega)
  have r0 := ra_S (σ := σ) (m := m) (x := 0) 0 h a5 (by omega) (by omega)
  have r69 := ra_S (σ := σ) (m := m) (x := 69) 69 h a6 (by omega) (by omega)
  rw [qu_ne (by omega), p6] at r6
  rw [qu_ne (by omega), qu_ne (by omega), qu_ne (by omega), p5] at r5
  rw [qu_ne (by omega), qu_ne (by omega), qu_ne (by omega), qu_ne (by omega), p68] at r68
  rw [qu_ne (by omega), qu_ne (by omega), qu_ne (by omega), qu_ne (by omega), qu_ne (by omega), p0] at r0
  rw [qu_ne (by omega), qu_ne (by omega), qu_ne (by omega), qu_ne (by omega), qu_ne (by omega), qu_ne (by omega), p69] at r69
  generalize hS : qu (qu (qu (qu (qu (qu (qu (qu (pS M) 67 0) 6 (M.1 6 + 1)) 118 1) 119 (M.1 5)) 120 (M.1 68)) 121 (M.1 0)) 122 (M.1 69)) 123 0 = S8 at a8
  generalize hA8 : qu (qu (qu (qu (qu (qu (qu (qu A 67 (zi 0)) 6 (zi (M.1 6 + 1))) 118 (zi 1)) 119 (zi (M.1 5))) 120 (zi (M.1 68))) 121 (zi (M.1 0))) 122 (zi (M.1 69))) 123 (zi 0) = A8 at a8
  obtain ⟨B, e1, hB⟩ := rfor (σ := σ) (m := m) (step := sX10_completes_96 m) 0 4 (fun t B => RA B (rCS S8 t 0) (pR P M)) (fun t B _ ht hB => by
    refine ⟨qu B (124 + t) (zi (S8 (98 + t))), ?_, RA_congr (RA_S hB (i := 124 + t) (v := S8 (98 + t)) (by omega)) (fun k hk => ?_) (fun _ _ => rfl)⟩
    · unfold sX10_completes_96 sX10_completes_96b
      dsimp only
      rw [if_neg (zi_nle (by omega) (by omega) (by omega)), rd_now h, Option.bind_some, Option.bind_some, zi_add, ra_S (98 + t) h hB (by omega) (by omega), Option.bind_some, rCS_n (by omega) (by omega), zi_add, ra_w (124 + t) h (by omega) (by omega), Option.bind_some]
    · by_cases e : k = 124 + t
      · subst e; rw [qu_at, rCS_a (by omega), show 124 + t - 26 = 98 + t from by omega]
      · rw [qu_ne e]
        by_cases e2 : 124 ≤ k ∧ k < 124 + t ∧ k < 128
        · rw [rCS_a e2, rCS_a (by omega)]
        · rw [rCS_n e2 (by omega), rCS_n (by omega) (by omega)]) (fun B _ => by
    unfold sX10_completes_96 sX10_completes_96b
    exact if_pos (zi_yle (by omega) (by omega) (by omega))) (by omega) (by omega) (x := 0) rfl (RA_congr a8 (fun k _ => by rw [rCS_n (by omega) (by omega)]) (fun _ _ => rfl))
  obtain ⟨C, e2, hC⟩ := rfor (σ := σ) (m := m) (step := sX10_completes_127 m) 0 16 (fun t B => RA B (rCS S8 4 t) (pR P M)) (fun t B _ ht hB => by
    refine ⟨qu B (128 + t) (zi (S8 (102 + t))), ?_, RA_congr (RA_S hB (i := 128 + t) (v := S8 (102 + t)) (by omega)) (fun k hk => ?_) (fun _ _ => rfl)⟩
    · unfold sX10_completes_127 sX10_completes_127b
      dsimp only
      rw [if_neg (zi_nle (by omega) (by omega) (by omega)), rd_now h, Option.bind_some, Option.bind_some, zi_add, ra_S (102 + t) h hB (by omega) (by omega), Option.bind_some, rCS_n (by omega) (by omega), zi_add, ra_w (128 + t) h (by omega) (by omega), Option.bind_some]
    · by_cases e : k = 128 + t
      · subst e; rw [qu_at, rCS_b (by omega), show 128 + t - 26 = 102 + t from by omega]
      · rw [qu_ne e]
        by_cases e2 : 124 ≤ k ∧ k < 124 + 4 ∧ k < 128
        · rw [rCS_a e2, rCS_a e2]
        · by_cases e3 : 128 ≤ k ∧ k < 128 + t
          · rw [rCS_b e3, rCS_b (by omega)]
          · rw [rCS_n e2 e3, rCS_n e2 (by omega)]) (fun B _ => by
    unfold sX10_completes_127 sX10_completes_127b
    exact if_pos (zi_yle (by omega) (by omega) (by omega))) (by omega) (by omega) (x := 0) rfl hB
  obtain ⟨D, e3, hD⟩ := ra_laysKept h hC
  refine ⟨D, ?_, RA_congr hD (fun k hk => ?_) (fun c hc => ?_)⟩
  · unfold fX10_completes
    rw [rd_now h, Option.bind_some, ra_w 67 h (by omega) (by omega), Option.bind_some, rd_now h, Option.bind_some, Option.bind_some, r6, Option.bind_some, zi_add, ra_w 6 h (by omega) (by omega), Option.bind_some, rd_now h, Option.bind_some, ra_w 118 h (by omega) (by omega), Option.bind_some, rd_now h, Option.bind_some, Option.bind_some, r5, Option.bind_some, ra_w 119 h (by omega) (by omega), Option.bind_some, rd_now h, Option.bind_some, Option.bind_some, r68, Option.bind_some, ra_w 120 h (by omega) (by omega), Option.bind_some, rd_now h, Option.bind_some, Option.bind_some, r0, Option.bind_some, ra_w 121 h (by omega) (by omega), Option.bind_some, rd_now h, Option.bind_some, Option.bind_some, r69, Option.bind_some, ra_w 122 h (by omega) (by omega), Option.bind_some, rd_now h, Option.bind_some, ra_w 123 h (by omega) (by omega), Option.bind_some, hA8, e1, Option.bind_some, e2, Option.bind_some, rd_ck h, e3, Option.bind_some]
  · have hq : ∀ j, (j < 67 ∨ 68 ≤ j ∧ j < 118) → j ≠ 6 → (qcomplete M).1 j = M.1 j := fun j h1 h2 => qcomplete_S (by omega) (by omega) h2
    have hS8 : ∀ j, j ≠ 67 → j ≠ 6 → (j < 118 ∨ 124 ≤ j) → S8 j = pS M j := by
      intro j h1 h2 h3
      rw [← hS, qu_ne (by omega), qu_ne (by omega), qu_ne (by omega), qu_ne (by omega), qu_ne (by omega), qu_ne (by omega), qu_ne (by omega), qu_ne (by omega)]
    by_cases k1 : 124 ≤ k
    · have e : rCS S8 4 16 k = S8 (k - 26) := by
        by_cases k2 : k < 128
        · exact rCS_a (by omega)
        · exact rCS_b (by omega)
      rw [e, hS8 _ (by omega) (by omega) (by omega), pS_lo (by omega), pS_lo (by omega)]
      obtain ⟨j, rfl⟩ : ∃ j, k = 124 + j := ⟨k - 124, by omega⟩
      rw [qcomplete_n (by omega), show 124 + j - 26 = 98 + j from by omega]
    · rw [rCS_n (by omega) (by omega)]
      by_cases k123 : k = 123
      · subst k123; rw [← hS, qu_at, pS_lo (by omega)]; rfl
      · by_cases k122 : k = 122
        · subst k122; rw [← hS, qu_ne (by omega), qu_at, pS_lo (by omega)]; rfl
        · by_cases k121 : k = 121
          · subst k121; rw [← hS, qu_ne (by omega), qu_ne (by omega), qu_at, pS_lo (by omega)]; rfl
          · by_cases k120 : k = 120
            · subst k120; rw [← hS, qu_ne (by omega), qu_ne (by omega), qu_ne (by omega), qu_at, pS_lo (by omega)]; rfl
            · by_cases k119 : k = 119
              · subst k119; rw [← hS, qu_ne (by omega), qu_ne (by omega), qu_ne (by omega), qu_ne (by omega), qu_at, pS_lo (by omega)]; rfl
              · by_cases k118 : k = 118
                · subst k118; rw [← hS, qu_ne (by omega), qu_ne (by omega), qu_ne (by omega), qu_ne (by omega), qu_ne (by omega), qu_at, pS_lo (by omega)]; rfl
                · by_cases k6 : k = 6
                  · subst k6; rw [← hS, qu_ne (by omega), qu_ne (by omega), qu_ne (by omega), qu_ne (by omega), qu_ne (by omega), qu_ne (by omega), qu_at, pS_lo (by omega)]; rfl
                  · by_cases k67 : k = 67
                    · subst k67; rw [← hS, qu_ne (by omega), qu_ne (by omega), qu_ne (by omega), qu_ne (by omega), qu_ne (by omega), qu_ne (by omega), qu_ne (by omega), qu_at, pS_lo (by omega)]; rfl
                    · rw [hS8 k k67 k6 (by omega)]
                      unfold pS
                      repeat' split
                      all_goals first | omega | rw [hq _ (by omega) (by omega)]
  · by_cases c1 : 54 ≤ c
    · obtain ⟨d, rfl⟩ : ∃ d, c = 54 + d := ⟨c - 54, by omega⟩
      rw [Rt_all (by omega), pR_ls (by omega), pR_ls (by omega), qcomplete_D (by omega)]
      congr 2
      unfold qch
      rw [if_neg (by omega), if_pos (by omega), if_neg (by omega), if_neg (by omega)]
      omega
    · rw [Rt_out (by omega)]
      exact (pR_same (qcomplete_L (by omega)) (fun _ => rfl)).symm
end RZ
