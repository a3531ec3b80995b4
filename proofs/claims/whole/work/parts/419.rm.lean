/-! The reference fails. -/
def rWS (a n : Nat) (f : Nat → Int) (S0 : Nat → Int) : Nat → Int := fun k => if a ≤ k ∧ k < a + n then f (k - a) else S0 k
theorem rWS_p {a n k : Nat} {f S0 : Nat → Int} (h : a ≤ k ∧ k < a + n) : rWS a n f S0 k = f (k - a) := if_pos h
theorem rWS_n {a n k : Nat} {f S0 : Nat → Int} (h : ¬ (a ≤ k ∧ k < a + n)) : rWS a n f S0 k = S0 k := if_neg h
section RFa
variable {σ : zS} {m : Nat} {A : Nat → Int32} {S : Nat → Int} {R : Nat → List Int} {P : qP} {M N : qM}
/-- a loop that writes numbers that lie side by side -/
theorem rforS {step : zS × Int32 → Option ((zS × Int32) ⊕ zS)} (a n : Nat) (f : Nat → Int) (hs : ∀ i B, i < n → RA B (rWS a i f S) R → step (rput σ m B, zi (i : Int)) = some (.inl (rput σ m (qu B (a + i) (zi (f i))), zi (i : Int) + zi 1)))
    (he : ∀ B, step (rput σ m B, zi (n : Int)) = some (.inr (rput σ m B))) (han : a + n ≤ 144) (h : RA A S R) : ∃ B, zloop step zfuel (rput σ m A, zi 0) = some (rput σ m B) ∧ RA B (rWS a n f S) R :=
  rfor (step := step) 0 n (fun t B => RA B (rWS a t f S) R) (fun t B _ ht hB => by
    refine ⟨_, hs t B ht hB, RA_congr (RA_S hB (i := a + t) (v := f t) (by omega)) (fun k hk => ?_) (fun _ _ => rfl)⟩
    by_cases e : k = a + t
    · subst e; rw [qu_at, rWS_p (by omega), show a + t - a = t from by omega]
    · rw [qu_ne e]
      by_cases e2 : a ≤ k ∧ k < a + t
      · rw [rWS_p e2, rWS_p (by omega)]
      · rw [rWS_n e2, rWS_n (by omega)]) (fun B _ => he B) (by omega) (by omega) (x := 0) rfl (RA_congr h (fun k _ => by rw [rWS_n (by omega)]) (fun _ _ => rfl))
theorem pR_done {c : Nat} (hc : c < 24) : pR P M (54 + c) = (M.2.1 (54 + c)).map (qen P c) := by
  rw [pR_ls (by omega)]
  unfold qch
  rw [if_neg (by omega), if_neg (by omega), show 54 + c - 54 = c from by omega]
theorem pR_kept {c : Nat} (hc : c < 24) : pR P M (30 + c) = (M.2.1 (30 + c)).map (qen P c) := by
  rw [pR_ls (by omega)]
  unfold qch
  rw [if_neg (by omega), if_pos (by omega), show 30 + c - 30 = c from by omega]
theorem qI_doneCap (hI : qI P M) {c : Nat} (hc : c < 24) : (M.2.1 (54 + c)).length ≤ rcap c := by
  have := qI_lenF hI (f := 54) (Or.inr rfl) hc
  by_cases e : c < 16
  · rw [rcap_a (by omega)]; have := this.2 e; omega
  · have := rcap_b (c := c) (by omega); omega
theorem ra_fails (h : rsh σ m) (hs : rset σ m P) (hI : qI P M) (hA : RM A P M) : ∃ B, fX10_fails (rput σ m A) m = some (rput σ m B) ∧ RM B P (qfail P M) := by
  obtain ⟨A1, e1, hA1⟩ := ra_shows h hs hI hA
  have hI1 := qI_show hI
  generalize hM : qshow P M = K at hA1 hI1
  have a2 := RA_S0 (i := 67) (v := 0) hA1 (by omega)
  have a3 := RA_S0 (i := 7) (v := K.1 7 + 1) a2 (by omega)
  have r7 := ra_S (σ := σ) (m := m) (x := 7) 7 h a2 (by omega) (by omega)
  rw [qu_ne (by omega), pS_lo (by omega)] at r7
  generalize hS3 : qu (qu (pS K) 67 0) 7 (K.1 7 + 1) = S3 at a3
  generalize hA3 : qu (qu A1 67 (zi 0)) 7 (zi (K.1 7 + 1)) = A3 at a3
  obtain ⟨B1, f1, b1⟩ := rfor (σ := σ) (m := m) (step := sX10_fails_30 m) 0 2 (fun t B => RA B (rWS 41 t (fun _ => -1) S3) (fun c => if 24 ≤ c ∧ c < 24 + t ∨ 26 ≤ c ∧ c < 26 + t then [] else pR P K c)) (fun t B _ ht hB => by
    obtain ⟨C, eC, hC⟩ := ra_empties (24 + t) h hB rfl (by omega)
    obtain ⟨D, eD, hD⟩ := ra_empties (26 + t) h hC rfl (by omega)
    refine ⟨qu D (41 + t) (zi (-1)), ?_, RA_congr (RA_S hD (i := 41 + t) (v := -1) (by omega)) (fun k hk => ?_) (fun c hc => ?_)⟩
    · unfold sX10_fails_30 sX10_fails_30b
      dsimp only
      rw [if_neg (zi_nle (by omega) (by omega) (by omega)), f_open ht, Option.bind_some, rd_ck h, eC, Option.bind_some, f_closed ht, Option.bind_some, rd_ck h, eD, Option.bind_some, rd_now h, Option.bind_some, zi_add, ra_w (41 + t) h (by omega) (by omega), Option.bind_some]
    · by_cases e : k = 41 + t
      · subst e; rw [qu_at, rWS_p (by omega)]
      · rw [qu_ne e]
        by_cases e2 : 41 ≤ k ∧ k < 41 + t
        · rw [rWS_p e2, rWS_p (by omega)]
        · rw [rWS_n e2, rWS_n (by omega)]
    · by_cases c1 : c = 26 + t
      · subst c1; rw [qu_at, if_pos (by omega)]
      · rw [qu_ne c1]
        by_cases c2 : c = 24 + t
        · subst c2; rw [qu_at, if_pos (by omega)]
        · rw [qu_ne c2]
          by_cases c3 : 24 ≤ c ∧ c < 24 + t ∨ 26 ≤ c ∧ c < 26 + t
          · rw [if_pos c3, if_pos (by omega)]
          · rw [if_neg c3, if_neg (by omega)]) (fun B _ => by
    unfold sX10_fails_30 sX10_fails_30b
    exact if_pos (zi_yle (by omega) (by omega) (by omega))) (by omega) (by omega) (x := 0) rfl (RA_congr a3 (fun k _ => by rw [rWS_n (by omega)]) (fun c _ => by rw [if_neg (by omega)]))
  generalize hR1 : (fun c => if 24 ≤ c ∧ c < 24 + 2 ∨ 26 ≤ c ∧ c < 26 + 2 then [] else pR P K c) = R1 at b1
  obtain ⟨B2, f2, b2⟩ := rforS (σ := σ) (m := m) (step := sX10_fails_75 m) 13 4 (fun i => K.1 (124 + i)) (fun i B hi hB => by
    unfold sX10_fails_75 sX10_fails_75b
    dsimp only
    rw [if_neg (zi_nle (by omega) (by omega) (by omega)), rd_now h, Option.bind_some, Option.bind_some, zi_add, ra_S (124 + i) h hB (by omega) (by omega), Option.bind_some, rWS_n (by omega), rWS_n (by omega), ← hS3, qu_ne (by omega), qu_ne (by omega), pS_lo (by omega), zi_add, ra_w (13 + i) h (by omega) (by omega), Option.bind_some]) (fun B => by
    unfold sX10_fails_75 sX10_fails_75b
    exact if_pos (zi_yle (by omega) (by omega) (by omega))) (by omega) b1
  obtain ⟨B3, f3, b3⟩ := rforS (σ := σ) (m := m) (step := sX10_fails_106 m) 17 16 (fun i => K.1 (128 + i)) (fun i B hi hB => by
    unfold sX10_fails_106 sX10_fails_106b
    dsimp only
    rw [if_neg (zi_nle (by omega) (by omega) (by omega)), rd_now h, Option.bind_some, Option.bind_some, zi_add, ra_S (128 + i) h hB (by omega) (by omega), Option.bind_some, rWS_n (by omega), rWS_n (by omega), rWS_n (by omega), ← hS3, qu_ne (by omega), qu_ne (by omega), pS_lo (by omega), zi_add, ra_w (17 + i) h (by omega) (by omega), Option.bind_some]) (fun B => by
    unfold sX10_fails_106 sX10_fails_106b
    exact if_pos (zi_yle (by omega) (by omega) (by omega))) (by omega) b2
  generalize hS4 : rWS 17 16 (fun i => K.1 (128 + i)) (rWS 13 4 (fun i => K.1 (124 + i)) (rWS 41 2 (fun _ => -1) S3)) = S4 at b3
  obtain ⟨B4, f4, b4⟩ := rfor (σ := σ) (m := m) (step := sX10_fails_140 m) 43 67 (fun t B => RA B (rWS 43 (t - 43) (fun _ => 0) S4) R1) (fun t B h1 ht hB => by
    refine ⟨qu B t (zi 0), ?_, RA_congr (RA_S hB (i := t) (v := 0) (by omega)) (fun k hk => ?_) (fun _ _ => rfl)⟩
    · unfold sX10_fails_140 sX10_fails_140b
      dsimp only
      rw [if_neg (zi_nle (by omega) (by omega) (by omega)), rd_now h, Option.bind_some, ra_w t h rfl (by omega), Option.bind_some]
    · by_cases e : k = t
      · subst e; rw [qu_at, rWS_p (by omega)]
      · rw [qu_ne e]
        by_cases e2 : 43 ≤ k ∧ k < 43 + (t - 43)
        · rw [rWS_p e2, rWS_p (by omega)]
        · rw [rWS_n e2, rWS_n (by omega)]) (fun B _ => by
    unfold sX10_fails_140 sX10_fails_140b
    exact if_pos (zi_yle (by omega) (by omega) (by omega))) (by omega) (by omega) (x := 43) rfl (RA_congr b3 (fun k _ => by rw [rWS_n (by omega)]) (fun _ _ => rfl))
  obtain ⟨B5, f5, b5⟩ := rfor (σ := σ) (m := m) (step := sX10_fails_161 m) 0 4 (fun t B => RA B (rWS 33 t (fun _ => 0) (rWS 37 t (fun _ => -1) (rWS 43 24 (fun _ => 0) S4))) R1) (fun t B _ ht hB => by
    refine ⟨qu (qu B (33 + t) (zi 0)) (37 + t) (zi (-1)), ?_, RA_congr (RA_S (RA_S hB (i := 33 + t) (v := 0) (by omega)) (i := 37 + t) (v := -1) (by omega)) (fun k hk => ?_) (fun _ _ => rfl)⟩
    · unfold sX10_fails_161 sX10_fails_161b
      dsimp only
      rw [if_neg (zi_nle (by omega) (by omega) (by omega)), rd_now h, Option.bind_some, zi_add, ra_w (33 + t) h (by omega) (by omega), Option.bind_some, rd_now h, Option.bind_some, zi_add, ra_w (37 + t) h (by omega) (by omega), Option.bind_some]
    · by_cases e : k = 37 + t
      · subst e; rw [qu_at, rWS_n (by omega), rWS_p (by omega)]
      · rw [qu_ne e]
        by_cases e2 : k = 33 + t
        · subst e2; rw [qu_at, rWS_p (by omega)]
        · rw [qu_ne e2]
          by_cases e3 : 33 ≤ k ∧ k < 33 + t
          · rw [rWS_p e3, rWS_p (by omega)]
          · rw [rWS_n e3, rWS_n (a := 33) (n := t + 1) (by omega)]
            by_cases e4 : 37 ≤ k ∧ k < 37 + t
            · rw [rWS_p e4, rWS_p (a := 37) (n := t + 1) (by omega)]
            · rw [rWS_n e4, rWS_n (a := 37) (n := t + 1) (by omega)]) (fun B _ => by
    unfold sX10_fails_161 sX10_fails_161b
    exact if_pos (zi_yle (by omega) (by omega) (by omega))) (by omega) (by omega) (x := 0) rfl (RA_congr b4 (fun k _ => by rw [rWS_n (a := 33) (by omega), rWS_n (a := 37) (by omega)]) (fun _ _ => rfl))
  obtain ⟨B6, f6, b6⟩ := ra_emptiesKept h b5
  have hR6 : ∀ c, 54 ≤ c → c < 78 → Rt 30 24 (fun _ => []) R1 c = pR P K c := fun c h1 h2 => by
    rw [Rt_out (by omega), ← hR1]
    dsimp only
    rw [if_neg (by omega)]
  obtain ⟨B7, f7, b7⟩ := ra_laysDone h b6 (fun c hc => by
    rw [hR6 _ (by omega) (by omega), pR_done hc, List.length_map]
    exact qI_doneCap hI1 hc)
  refine ⟨B7, ?_, RA_congr b7 (fun k hk => ?_) (fun c hc => ?_)⟩
  · unfold fX10_fails
    rw [rd_ck h, e1, Option.bind_some, rd_now h, Option.bind_some, ra_w 67 h (by omega) (by omega), Option.bind_some, rd_now h, Option.bind_some, Option.bind_some, r7, Option.bind_some, zi_add, ra_w 7 h (by omega) (by omega), Option.bind_some, hA3, f1, Option.bind_some, f2, Option.bind_some, f3, Option.bind_some, f4, Option.bind_some, f5, Option.bind_some, rd_ck h, f6, Option.bind_some, rd_ck h, f7, Option.bind_some]
  · have hq1 : ∀ j, 33 ≤ j → j < 67 → (qfail P M).1 j = 0 := fun j h1 h2 => by
      unfold qfail
      dsimp only
      rw [if_neg (by omega), if_neg (by omega), if_neg (by omega), if_pos (by omega)]
    have hq2 : ∀ j, (j < 13 ∨ 68 ≤ j) → j ≠ 7 → (qfail P M).1 j = K.1 j := fun j h1 h2 => by
      unfold qfail
      dsimp only
      rw [if_neg (by omega), if_neg h2, if_neg (by omega), if_neg (by omega), hM]
    have hq3 : ∀ j, 13 ≤ j → j < 33 → (qfail P M).1 j = K.1 (j + 111) := fun j h1 h2 => by
      unfold qfail
      dsimp only
      rw [if_neg (by omega), if_neg (by omega), if_pos (by omega), hM]
    by_cases k1 : 33 ≤ k ∧ k < 37
    · rw [rWS_p (by omega), pS_lo (by omega), hq1 _ (by omega) (by omega)]
    · rw [rWS_n (by omega)]
      by_cases k2 : 37 ≤ k ∧ k < 41
      · rw [rWS_p (by omega)]
        obtain ⟨r, rfl⟩ : ∃ r, k = 37 + r := ⟨k - 37, by omega⟩
        rw [pS_turn (by omega), hq1 _ (by omega) (by omega)]
        rfl
      · rw [rWS_n (by omega)]
        by_cases k3 : 43 ≤ k ∧ k < 67
        · rw [rWS_p (by omega), pS_ri, if_neg (by omega)]
          have : 33 ≤ ri k ∧ ri k < 67 := by
            unfold ri
            repeat' split
            all_goals omega
          rw [hq1 _ this.1 this.2]
          rfl
        · rw [rWS_n (by omega), ← hS4]
          by_cases k4 : 17 ≤ k ∧ k < 33
          · rw [rWS_p (by omega), pS_lo (by omega), hq3 _ (by omega) (by omega), show 128 + (k - 17) = k + 111 from by omega]
          · rw [rWS_n (by omega)]
            by_cases k5 : 13 ≤ k ∧ k < 17
            · rw [rWS_p (by omega), pS_lo (by omega), hq3 _ (by omega) (by omega), show 124 + (k - 13) = k + 111 from by omega]
            · rw [rWS_n (by omega)]
              by_cases k6 : 41 ≤ k ∧ k < 43
              · rw [rWS_p (by omega)]
                obtain ⟨r, rfl⟩ : ∃ r, k = 37 + r := ⟨k - 37, by omega⟩
                rw [pS_turn (by omega), hq1 _ (by omega) (by omega)]
                rfl
              · rw [rWS_n (by omega), ← hS3]
                by_cases k7 : k = 7
                · subst k7
                  rw [qu_at, pS_lo (by omega)]
                  unfold qfail
                  dsimp only
                  rw [if_neg (by omega), if_pos rfl, hM]
                · rw [qu_ne k7]
                  by_cases k67 : k = 67
                  · subst k67
                    rw [qu_at, pS_lo (by omega)]
                    rfl
                  · rw [qu_ne k67, pS_ri, pS_ri]
                    have : (ri k < 13 ∨ 68 ≤ ri k) ∧ ri k ≠ 7 := by
                      unfold ri
                      repeat' split
                      all_goals omega
                    rw [hq2 _ this.1 this.2]
  · by_cases c1 : c < 24
    · have e := Rt_all (b := 0) (c := c) (F := fun c => Rt 30 24 (fun _ => []) R1 (54 + c)) (R := Rt 30 24 (fun _ => []) R1) c1
      rw [Nat.zero_add] at e
      rw [e, hR6 _ (by omega) (by omega), pR_done c1, pR_ch c1]
      unfold qfail
      dsimp only
      rw [if_pos c1, qins_none, hM]
    · rw [Rt_out (by omega)]
      have hL : ∀ d, 28 ≤ d → (d < 30 ∨ 54 ≤ d) → (qfail P M).2.1 d = K.2.1 d := fun d h1 h2 => by
        unfold qfail
        dsimp only
        rw [if_neg (by omega), if_neg (by omega), if_neg (by omega), hM]
      by_cases c2 : 30 ≤ c ∧ c < 54
      · obtain ⟨d, rfl⟩ : ∃ d, c = 30 + d := ⟨c - 30, by omega⟩
        rw [Rt_all (by omega), pR_ls (by omega)]
        unfold qfail
        dsimp only
        rw [if_neg (by omega), if_neg (by omega), if_pos (by omega)]
        rfl
      · rw [Rt_out (by omega), ← hR1]
        dsimp only
        by_cases c3 : c < 28
        · rw [if_pos (by omega), pR_ls (by omega)]
          unfold qfail
          dsimp only
          rw [if_neg (by omega), if_pos c3]
          rfl
        · rw [if_neg (by omega)]
          exact (pR_same (M := K) (hL c (by omega) (by omega)) (fun q => absurd q c1)).symm
end RFa
