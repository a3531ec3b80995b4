/-! The law's two checks answer true. -/
section EV
variable {σ : zS} {X A : Nat} {P : qP} {M : qM} {H : List qM} {S : Option qM} {z : Int}
theorem LC_many (h : LC z σ X P M H S) : M.1 1 = (qmany M : Int) := qI_many (LC_I h).1
theorem lq_c1 (h : LC z σ X P M H S) (hz : z < 700000000) : zck 8 σ X (fX9_count σ X (zi 1)) = some (σ, zi (qmany M : Nat)) := by
  have k := lq_count h hz (x := 1) ⟨by decide, by decide⟩
  rw [show aCount P M H.length 1 = (qmany M : Int) from LC_many h] at k
  exact k
theorem lq_c0 (h : LC z σ X P M H S) (hz : z < 700000000) : zck 8 σ X (fX9_count σ X (zi 0)) = some (σ, zi (P.1 : Nat)) := lq_count h hz (x := 0) ⟨by decide, by decide⟩
theorem lq_c2 (h : LC z σ X P M H S) (hz : z < 700000000) : zck 8 σ X (fX9_count σ X (zi 2)) = some (σ, zi (P.2.1 : Nat)) := lq_count h hz (x := 2) ⟨by decide, by decide⟩
theorem lq_c5 (h : LC z σ X P M H S) (hz : z < 700000000) : zck 8 σ X (fX9_count σ X (zi 5)) = some (σ, zi (M.1 0)) := lq_count h hz (x := 5) ⟨by decide, by decide⟩
theorem lq_c6 (h : LC z σ X P M H S) (hz : z < 700000000) : zck 8 σ X (fX9_count σ X (zi 6)) = some (σ, zi (M.1 5)) := lq_count h hz (x := 6) ⟨by decide, by decide⟩
theorem lq_c7 (h : LC z σ X P M H S) (hz : z < 700000000) : zck 8 σ X (fX9_count σ X (zi 7)) = some (σ, zi (M.1 6)) := lq_count h hz (x := 7) ⟨by decide, by decide⟩
theorem lq_c9 (h : LC z σ X P M H S) (hz : z < 700000000) : zck 8 σ X (fX9_count σ X (zi 9)) = some (σ, zi (M.1 8)) := lq_count h hz (x := 9) ⟨by decide, by decide⟩
theorem lq_c10 (h : LC z σ X P M H S) (hz : z < 700000000) : zck 8 σ X (fX9_count σ X (zi 10)) = some (σ, zi (H.length : Nat)) := lq_count h hz (x := 10) ⟨by decide, by decide⟩
theorem ev_sums1 (h : LC z σ X P M H S) (hz : z < 700000000) : ∃ x, zloop (sL_areSums_9 X (zi 0) (zi 0)) zfuel (σ, zi 0, zi 0) = some x ∧ x = (σ, zi 8) := by
  have hI := (LC_I h).1
  have hm := qN_many hI.1.2.1
  refine zloop_run (step := sL_areSums_9 X (zi 0) (zi 0)) (qmany M) (fun i s => s = (σ, zi (qsS (fun i => (qgroups (qmany M) i : Int)) i), zi (i : Int))) (fun x => x = (σ, zi 8)) ?_ ?_ (fuel := zfuel) (by have : zfuel = 1000000 := rfl; omega) rfl
  · rintro i s hi rfl
    refine Or.inl ⟨_, ?_, rfl⟩
    unfold sL_areSums_9 sL_areSums_9b
    dsimp only
    rw [lq_c1 h hz, Option.bind_some]
    dsimp only
    rw [if_neg (zi_nle (by omega) (by omega) (by omega)), lq_grp h hz hi, Option.bind_some]
    dsimp only
    rw [zi_add, zi_add, ← qsS_succ (fun i => (qgroups (qmany M) i : Int)) i]
    rfl
  · rintro s rfl
    refine ⟨_, ?_, rfl⟩
    unfold sL_areSums_9 sL_areSums_9b
    dsimp only
    rw [lq_c1 h hz, Option.bind_some]
    dsimp only
    rw [if_pos (zi_yle (by omega) (by omega) (by omega)), qgr_8 hI]
theorem ev_sums2 (h : LC z σ X P M H S) (hz : z < 700000000) : ∃ x, zloop (sL_areSums_38 X (zi 8)) zfuel (σ, zi 0, zi 0, zi 0) = some x ∧ x = .inr (σ, zi (qrisk P M), zi (qsS (fun s => M.1 (13 + s)) P.1)) := by
  obtain ⟨hI, hB, hJ⟩ := LC_I h
  have h4 := hI.1.1.2.1
  refine zloop_run (step := sL_areSums_38 X (zi 8)) P.1 (fun i s => s = (σ, zi (qsS (fun s => M.1 (13 + s) - M.1 (124 + s)) i), zi (qsS (fun s => M.1 (13 + s)) i), zi (i : Int))) (fun x => x = .inr (σ, zi (qrisk P M), zi (qsS (fun s => M.1 (13 + s)) P.1))) ?_ ?_ (fuel := zfuel) (by have : zfuel = 1000000 := rfl; omega) rfl
  · rintro i s hi rfl
    have a := qps_in hI hJ (s := i) (by omega)
    refine Or.inl ⟨_, ?_, rfl⟩
    unfold sL_areSums_38 sL_areSums_38b
    dsimp only
    rw [lq_c0 h hz, Option.bind_some]
    dsimp only
    rw [if_neg (zi_nle (by omega) (by omega) (by omega)), lq_pos h hz hi, Option.bind_some]
    dsimp only
    rw [lq_npos h hz hi, Option.bind_some]
    dsimp only
    rw [lq_pos h hz hi, Option.bind_some]
    dsimp only
    rw [lq_npos h hz hi, Option.bind_some]
    dsimp only
    rw [lq_pos h hz hi, Option.bind_some]
    dsimp only
    rw [if_neg (by rw [zi_lt (by omega) (by omega) (by omega) (by omega)]; omega), lq_pos h hz hi, Option.bind_some]
    dsimp only
    rw [lq_recs h hz hi, Option.bind_some]
    dsimp only
    rw [if_pos (zi_yle (by omega) (by omega) (by omega)), zi_sub, zi_add, zi_add, zi_add, ← qsS_succ (fun s => M.1 (13 + s)) i, ← qsS_succ (fun s => M.1 (13 + s) - M.1 (124 + s)) i]
    rfl
  · rintro s rfl
    refine ⟨_, ?_, rfl⟩
    unfold sL_areSums_38 sL_areSums_38b
    dsimp only
    rw [lq_c0 h hz, Option.bind_some]
    dsimp only
    rw [if_pos (zi_yle (by omega) (by omega) (by omega)), ← qrisk_S]
theorem ev_sums3 (h : LC z σ X P M H S) (hz : z < 700000000) {x1 x2 x3 : Int32} : ∃ x, zloop (sL_areSums_119 X x1 x2 x3) zfuel (σ, zi 0) = some x ∧ x = .inr σ := by
  obtain ⟨hI, hB, hJ⟩ := LC_I h
  have hm := qN_many hI.1.2.1
  refine zloop_run (step := sL_areSums_119 X x1 x2 x3) 16 (fun i s => s = (σ, zi (i : Int))) (fun x => x = .inr σ) ?_ ?_ (fuel := zfuel) (by have : zfuel = 1000000 := rfl; omega) rfl
  · rintro i s hi rfl
    have a := qsm_in hI hi
    have b := hJ.1 (4 + i) (by omega)
    rw [show 124 + (4 + i) = 128 + i from by omega, show 13 + (4 + i) = 17 + i from by omega] at b
    refine Or.inl ⟨_, ?_, rfl⟩
    unfold sL_areSums_119 sL_areSums_119b
    dsimp only
    rw [if_neg (zi_nle (by omega) (by omega) (by omega)), lq_nsum h hz hi, Option.bind_some]
    dsimp only
    rw [lq_sum h hz hi, Option.bind_some]
    dsimp only
    rw [if_neg (by rw [zi_lt (by omega) (by omega) (by omega) (by omega)]; omega), lq_owner h hz hi, Option.bind_some]
    dsimp only
    rw [lq_c1 h hz, Option.bind_some]
    dsimp only
    have hb : (i : Int) % 8 * (qmany M : Int) < 100 ∧ 0 ≤ (i : Int) % 8 * (qmany M : Int) := by
      have h1 : 0 ≤ (i : Int) % 8 ∧ (i : Int) % 8 < 8 := by omega
      rcases (show qmany M = 1 ∨ qmany M = 2 ∨ qmany M = 3 ∨ qmany M = 4 by omega) with e | e | e | e <;> rw [e] <;> omega
    rw [zi_mod (by omega) (by omega) (by omega) (by omega), zi_mul, zi_div (by omega) (by omega) (by omega) (by omega), if_pos (by
      congr 1), zi_add]
    rfl
  · rintro s rfl
    refine ⟨_, ?_, rfl⟩
    unfold sL_areSums_119 sL_areSums_119b
    dsimp only
    rw [if_pos (by decide)]
theorem ev_sums (h : LC z σ X P M H S) (hz4 : z < 400000000) (hz0 : 0 ≤ z) : fL_areSums σ X = some (σ, zi 1) := by
  have hz : z < 700000000 := by omega
  obtain ⟨hI, hB, hJ⟩ := LC_I h
  have hB2 := KB_in hB hz
  have hs := qsent_in hI hJ
  have h67 := hI.1.2.1.2.2.2.2.2.2.2.1
  have h118 := hI.1.2.1.2.2.2.2.2.2.2.2.1
  have h119 := hI.1.2.2.2.2.2.2.2.2
  have hs0 : 0 ≤ qsS (fun s => M.1 (13 + s)) P.1 ∧ qsS (fun s => M.1 (13 + s)) P.1 ≤ P.1 * 200 := qsS_in (fun i hi => by
    have := qps_in hI hJ (s := i) (by have := hI.1.1.2.1; omega)
    exact ⟨by omega, by omega⟩)
  have h4 := hI.1.1.2.1
  obtain ⟨j1, j2, ⟨j3, j4⟩, ⟨j5, j6⟩, j7⟩ := hJ
  obtain ⟨x1, e1, rfl⟩ := ev_sums1 h hz
  obtain ⟨x2, e2, rfl⟩ := ev_sums2 h hz
  have hB3 := hB.1.2
  unfold fL_areSums
  rw [e1, Option.bind_some]
  dsimp only
  rw [e2, Option.bind_some]
  dsimp only
  obtain ⟨x3, e3, rfl⟩ := ev_sums3 h hz (x1 := zi 8) (x2 := zi (qrisk P M)) (x3 := zi (qsS (fun s => M.1 (13 + s)) P.1))
  rw [e3, Option.bind_some]
  dsimp only
  have k248 : ∀ (y0 : Int32), (y0 = if M.1 118 = 1 then zi 0 else zi 1) → jL_areSums_248 σ X y0 = some (σ, zi 1) := by
    intro y0 hy
    unfold jL_areSums_248
    rw [lq_c7 h hz, Option.bind_some]
    dsimp only
    by_cases q : M.1 118 = 1
    · rw [if_pos q] at hy
      have := j7.mp q
      rw [if_neg (by rw [zi_eq (by omega) (by omega) (by omega) (by omega)]; exact this)]
      unfold jL_areSums_262
      rw [hy, if_pos rfl]
      exact zrZ_1 _
    · rw [if_neg q] at hy
      have : M.1 6 = 0 := by
        by_cases e : M.1 6 = 0
        · exact e
        · exact absurd (j7.mpr e) q
      rw [this, if_pos rfl]
      unfold jL_areSums_262
      rw [hy, if_pos rfl]
      exact zrZ_1 _
  have k234 : jL_areSums_234 σ X = some (σ, zi 1) := by
    unfold jL_areSums_234
    rw [lq_comp0 h hz, Option.bind_some]
    dsimp only
    by_cases q : M.1 118 = 1
    · have := h119 q
      rw [if_pos q, if_neg (by rw [zi_eq (by omega) (by omega) (by omega) (by omega)]; omega)]
      exact k248 _ (by rw [if_pos q])
    · rw [if_neg q, if_pos rfl]
      exact k248 _ (by rw [if_neg q])
  rw [if_pos rfl, lq_risk h hz, Option.bind_some]
  dsimp only
  rw [if_pos rfl, lq_c9 h hz, Option.bind_some]
  dsimp only
  rw [if_neg (by rw [zi_lt (by omega) (by omega) (by omega) (by omega)]; omega), lq_c7 h hz, Option.bind_some]
  dsimp only
  rw [lq_c6 h hz, Option.bind_some]
  dsimp only
  rw [if_neg (by rw [zi_lt (by omega) (by omega) (by omega) (by omega)]; omega), lq_prog h hz, Option.bind_some]
  dsimp only
  by_cases q : M.1 67 = 1
  · rw [if_pos q, if_neg (by rw [zi_eq (by omega) (by omega) (by omega) (by omega)]; omega), lq_prog h hz, if_pos q, Option.bind_some]
    dsimp only
    rw [lq_c6 h hz, Option.bind_some]
    dsimp only
    rw [if_pos rfl]
    exact k234
  · rw [if_neg q, if_pos rfl]
    exact k234
end EV
