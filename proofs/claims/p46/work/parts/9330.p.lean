/-! The class's object is made: it holds the plain setup and flow. -/
section N9
variable {σ : zS} {X : Nat}
theorem n_X9 (h : SK X σ [(0, 13, 0)] [] [(0, 7, 0)]) : ∃ τ, gX9_init σ (X + 1) X = some τ ∧ zgr X (X + 307) σ τ ∧ CI τ X (pP Dp) Dp.2.2.2.2.1 (pM Dp) [] none [] 0 (-1) [] := by
  unfold gX9_init
  simp only [Nat.add_assoc, Nat.reduceAdd]
  -- input
  refine st_sub (n := 1) (len := 2) (hi := 307) (g9 := fun s => gX2_init s (X + 1 + 1) (X + 1)) h zgr_refl [1] (by omega) (by omega) (by decide) (by decide) (by decide) (n_X2 (SK_new0 [1])) (fun σ1 h1 g1 _ _ => ?_)
  refine st_put (o := 0) (n := 1) (hi := 307) h1 g1 13 (by decide) rfl (by omega) (by decide) (fun σ2 h2 g2 _ => ?_)
  -- parser
  have h3a := SK_new (n := 3) (q := (10, 0)) h2 [0] (by decide) (by decide) (by decide)
  refine st_get (o := 0) h3a 13 1 (by decide) rfl (by decide) ?_
  rw [n_X5 (by rw [znew_k]), Option.bind_some]
  have h3 := SK_R (o := 3) (j := 2) (n := 1) (SK_I (o := 3) (j := 1) (v := -1) h3a (by decide)) (by decide)
  have g3 : zgr X (X + 307) σ (zuR (zuI (znew σ2 (X + 3) (10, 0)) (X + 3) 1 (zi (-1))) (X + 3) 2 (some (X + 1))) := zgr_trans g2 (zgr_trans (zgr_wide (zgr_new (σ := σ2) (N := X + 3) (q := (10, 0))) (by omega) (by omega)) (zgr_trans (zgr_wide (zgr_fr zfr_I) (by omega) (by omega)) (zgr_wide (zgr_fr zfr_R) (by omega) (by omega))))
  generalize zuR (zuI (znew σ2 (X + 3) (10, 0)) (X + 3) 1 (zi (-1))) (X + 3) 2 (some (X + 1)) = σ3 at h3 g3 ⊢
  refine st_put (o := 0) (n := 3) (hi := 307) h3 g3 13 (by decide) rfl (by omega) (by decide) (fun σ4 h4 g4 _ => ?_)
  -- output
  refine st_sub (n := 4) (len := 2) (hi := 307) (g9 := fun s => gX4_init s (X + 4 + 1) (X + 4)) h4 g4 [1] (by omega) (by omega) (by decide) (by decide) (by decide) (n_X4 (SK_new0 [1])) (fun σ5 h5 g5 _ _ => ?_)
  refine st_put (o := 0) (n := 4) (hi := 307) h5 g5 13 (by decide) rfl (by omega) (by decide) (fun σ6 h6 g6 _ => ?_)
  -- setups
  refine st_sub (n := 6) (len := 10) (hi := 307) (g9 := fun s => gX7_init s (X + 6 + 1) (X + 6)) h6 g6 [] (by omega) (by omega) (by decide) (by decide) (by decide) (n_X7 znew_k) (fun σ7 h7 g7 _ _ => ?_)
  refine st_put (o := 0) (n := 6) (hi := 307) h7 g7 13 (by decide) rfl (by omega) (by decide) (fun σ8 h8 g8 _ => ?_)
  refine st_sub (n := 16) (len := 10) (hi := 307) (g9 := fun s => gX7_init s (X + 16 + 1) (X + 16)) h8 g8 [] (by omega) (by omega) (by decide) (by decide) (by decide) (n_X7 znew_k) (fun σ9 h9 g9 _ _ => ?_)
  refine st_put (o := 0) (n := 16) (hi := 307) h9 g9 13 (by decide) rfl (by omega) (by decide) (fun σ10 h10 g10 _ => ?_)
  refine st_get (o := 0) h10 13 6 (by decide) rfl (by decide) ?_
  have up6 : SK (X + 6) σ10 KX7 QX7 [] := by
    have h9 : SK X σ10 (KX7.map (fun p => (6 + p.1, p.2))) (QX7.map (fun p => (6 + p.1, p.2.1, 6 + p.2.2))) [] := SK_sub h10 (by decide) (by decide) (by decide)
    refine ⟨fun p hp => ?_, fun p hp => ?_, fun p hp => (by cases hp)⟩
    · rw [Nat.add_assoc]
      exact h9.1 _ (List.mem_map.mpr ⟨p, hp, rfl⟩)
    · rw [Nat.add_assoc, Nat.add_assoc]
      exact h9.2.1 _ (List.mem_map.mpr ⟨p, hp, rfl⟩)
  have up16 : SK (X + 16) σ10 KX7 QX7 [] := by
    have h9 : SK X σ10 (KX7.map (fun p => (16 + p.1, p.2))) (QX7.map (fun p => (16 + p.1, p.2.1, 16 + p.2.2))) [] := SK_sub h10 (by decide) (by decide) (by decide)
    refine ⟨fun p hp => ?_, fun p hp => ?_, fun p hp => (by cases hp)⟩
    · rw [Nat.add_assoc]
      exact h9.1 _ (List.mem_map.mpr ⟨p, hp, rfl⟩)
    · rw [Nat.add_assoc, Nat.add_assoc]
      exact h9.2.1 _ (List.mem_map.mpr ⟨p, hp, rfl⟩)
  obtain ⟨σ11, e11, ⟨f1, f2, f3⟩, hSU, hPD⟩ := n_plain (sush_of up6)
  rw [show ∀ o : Option zS, zck 7 σ10 (X + 6) o = o from fun o => if_pos (sush_of up6).1, e11, Option.bind_some]
  have h11 := SK_int (n := 6) (len := 10) h10 f1 f2 f3 (by decide)
  have g11 : zgr X (X + 307) σ σ11 := zgr_trans g10 (zgr_wide (fun a ha => ⟨by rw [f1], f3 a ha, by rw [f2], by rw [f2]⟩ : zgr (X + 6) (X + 16) σ10 σ11) (by omega) (by omega))
  have hSF : SF σ11 X := by
    refine ⟨?_, ?_, hSU, hPD⟩
    · have := sush_of up6
      unfold sush at this ⊢
      rw [f1, f2]
      exact this
    · have := sush_of up16
      unfold sush at this ⊢
      rw [f1, f2]
      exact this
  clear hSU hPD
  have N9 : ∀ s N q, SF s X → X + 26 ≤ N → SF (znew s N q) X := fun s N q hs hN => SF_gr hs zgr_new (by omega)
  -- now, trial, saved
  refine st_get (o := 0) (SK_new (n := 26) (q := (6, 0)) h11 [] (by decide) (by decide) (by decide)) 13 6 (by decide) rfl (by decide) ?_
  refine st_sub (n := 26) (len := 31) (hi := 307) (g9 := fun s => gX1_init s (X + 26 + 1) (X + 26) (X + 6)) h11 g11 [] (by omega) (by omega) (by decide) (by decide) (by decide) (n_X1 znew_k (by omega) (N9 σ11 _ _ hSF (by omega)).1 (N9 σ11 _ _ hSF (by omega)).2.2.2 Dp_v) (fun σ12 h12 g12 y12 z0 => ?_)
  replace hSF := SF_gr hSF y12 (by omega)
  refine st_put (o := 0) (n := 26) (hi := 307) h12 g12 13 (by decide) rfl (by omega) (by decide) (fun σ13 h13 g13 y13 => ?_)
  replace hSF := SF_gr hSF y13 (by omega)
  replace z0 := FZ_gr z0 y13 (by omega)
  refine st_get (o := 0) (SK_new (n := 57) (q := (6, 0)) h13 [] (by decide) (by decide) (by decide)) 13 6 (by decide) rfl (by decide) ?_
  refine st_sub (n := 57) (len := 31) (hi := 307) (g9 := fun s => gX1_init s (X + 57 + 1) (X + 57) (X + 6)) h13 g13 [] (by omega) (by omega) (by decide) (by decide) (by decide) (n_X1 znew_k (by omega) (N9 σ13 _ _ hSF (by omega)).1 (N9 σ13 _ _ hSF (by omega)).2.2.2 Dp_v) (fun σ14 h14 g14 y14 z1 => ?_)
  replace hSF := SF_gr hSF y14 (by omega)
  replace z0 := FZ_gr z0 y14 (by omega)
  refine st_put (o := 0) (n := 57) (hi := 307) h14 g14 13 (by decide) rfl (by omega) (by decide) (fun σ15 h15 g15 y15 => ?_)
  replace hSF := SF_gr hSF y15 (by omega)
  replace z0 := FZ_gr z0 y15 (by omega)
  replace z1 := FZ_gr z1 y15 (by omega)
  refine st_get (o := 0) (SK_new (n := 88) (q := (6, 0)) h15 [] (by decide) (by decide) (by decide)) 13 6 (by decide) rfl (by decide) ?_
  refine st_sub (n := 88) (len := 31) (hi := 307) (g9 := fun s => gX1_init s (X + 88 + 1) (X + 88) (X + 6)) h15 g15 [] (by omega) (by omega) (by decide) (by decide) (by decide) (n_X1 znew_k (by omega) (N9 σ15 _ _ hSF (by omega)).1 (N9 σ15 _ _ hSF (by omega)).2.2.2 Dp_v) (fun σ16 h16 g16 y16 z2 => ?_)
  replace hSF := SF_gr hSF y16 (by omega)
  replace z0 := FZ_gr z0 y16 (by omega)
  replace z1 := FZ_gr z1 y16 (by omega)
  refine st_put (o := 0) (n := 88) (hi := 307) h16 g16 13 (by decide) rfl (by omega) (by decide) (fun σ17 h17 g17 y17 => ?_)
  replace hSF := SF_gr hSF y17 (by omega)
  replace z0 := FZ_gr z0 y17 (by omega)
  replace z1 := FZ_gr z1 y17 (by omega)
  replace z2 := FZ_gr z2 y17 (by omega)
  -- the past
  refine st_get (o := 0) (SK_new (n := 119) (q := (11, 0)) h17 [0, 1] (by decide) (by decide) (by decide)) 13 6 (by decide) rfl (by decide) ?_
  refine st_sub (n := 119) (len := 188) (hi := 307) (g9 := fun s => gX6_init s (X + 119 + 1) (X + 119) (X + 6)) h17 g17 [0, 1] (by omega) (by omega) (by decide) (by decide) (by decide) (n_X6 (SK_new0 [0, 1]) (by omega) (N9 σ17 _ _ hSF (by omega)).1 (N9 σ17 _ _ hSF (by omega)).2.2.2 Dp_v) (fun σ18 h18 g18 y18 zp => ?_)
  replace hSF := SF_gr hSF y18 (by omega)
  replace z0 := FZ_gr z0 y18 (by omega)
  replace z1 := FZ_gr z1 y18 (by omega)
  replace z2 := FZ_gr z2 y18 (by omega)
  refine st_put (o := 0) (n := 119) (hi := 307) h18 g18 13 (by decide) rfl (by omega) (by decide) (fun σ19 h19 g19 y19 => ?_)
  replace hSF := SF_gr hSF y19 (by omega)
  replace z0 := FZ_gr z0 y19 (by omega)
  replace z1 := FZ_gr z1 y19 (by omega)
  replace z2 := FZ_gr z2 y19 (by omega)
  have zp9 : ∀ i, i < 6 → FZ σ19 (X + 119 + (2 + 31 * i)) (X + 6) Dp := fun i hi => FZ_gr (zp i hi) y19 (by omega)
  refine ⟨σ19, rfl, g19, 6, 0, fun i => if i = 0 then some (pM Dp) else none, ?_, fun i hi => ?_, rfl, fun N hN => (by cases hN), fun k hk => absurd hk (Nat.not_lt_zero k)⟩
  · refine ⟨⟨?_, ⟨SK_r h19 0 0 1 (by decide), SK_r h19 0 1 3 (by decide), SK_r h19 0 2 4 (by decide), SK_r h19 0 3 119 (by decide), SK_r h19 0 4 26 (by decide), SK_r h19 0 5 57 (by decide), SK_r h19 0 6 88 (by decide)⟩, ⟨?_, SK_r h19 119 2 120 (by decide), SK_k h19 120 (4, 6) (by decide), fun i hi => ?_⟩, ⟨?_, SK_r h19 1 0 2 (by decide), SK_k h19 2 (2, 300) (by decide)⟩, ⟨?_, SK_r h19 4 0 5 (by decide), SK_k h19 5 (2, 8000) (by decide)⟩, ?_, SK_r h19 3 2 1 (by decide)⟩, Or.inl rfl, ⟨SK_r h19 0 8 6 (by decide), SK_r h19 0 9 16 (by decide)⟩, ⟨hSF.2.2.1, fun s hs => ?_, Dp_P⟩, ⟨hSF.1, hSF.2.1⟩, SK_i h19 0 7 0 (by decide), ⟨SK_i h19 119 0 0 (by decide), SK_i h19 119 1 0 (by decide), by decide, by decide⟩, ⟨SK_i h19 1 1 0 (by decide), by decide, fun i hi => absurd hi (Nat.not_lt_zero i)⟩, ⟨SK_i h19 3 0 0 (by decide), SK_i h19 3 1 (-1) (by decide)⟩, ⟨SK_i h19 4 1 0 (by decide), by decide, fun i hi => absurd hi (Nat.not_lt_zero i)⟩⟩
    · exact congrArg Prod.fst (SK_k h19 0 (13, 0) (by decide))
    · rw [SK_k h19 119 (11, 0) (by decide)]
    · have : i = 0 ∨ i = 1 ∨ i = 2 ∨ i = 3 ∨ i = 4 ∨ i = 5 := by omega
      rcases this with rfl | rfl | rfl | rfl | rfl | rfl
      · exact SK_r h19 120 0 121 (by decide)
      · exact SK_r h19 120 1 152 (by decide)
      · exact SK_r h19 120 2 183 (by decide)
      · exact SK_r h19 120 3 214 (by decide)
      · exact SK_r h19 120 4 245 (by decide)
      · exact SK_r h19 120 5 276 (by decide)
    · rw [SK_k h19 1 (7, 0) (by decide)]
    · rw [SK_k h19 4 (9, 0) (by decide)]
    · rw [SK_k h19 3 (10, 0) (by decide)]
    · have hs1 : s < 4 := Nat.lt_of_lt_of_le hs (by decide)
      exact ⟨(hSF.2.2.2.2.1 s hs1).2.1, hSF.2.2.2.2.2.1 s hs⟩
  · have key : FZ σ19 (fpl X i) (X + 6) Dp := by
      unfold fpl
      by_cases h3 : i < 3
      · rw [if_pos h3]
        have : i = 0 ∨ i = 1 ∨ i = 2 := by omega
        rcases this with rfl | rfl | rfl
        · exact z0
        · exact z1
        · exact z2
      · rw [if_neg h3]
        have := zp9 (i - 3) (by omega)
        rwa [show X + 119 + (2 + 31 * (i - 3)) = X + 28 + 31 * i by omega] at this
    obtain ⟨V, k1, k2⟩ := key
    refine ⟨V, 11, X + 6, k1, Or.inl rfl, fun M hM => ⟨rfl, ?_⟩⟩
    dsimp only at hM
    by_cases h0 : i = 0
    · rw [if_pos h0] at hM
      cases hM
      exact k2
    · rw [if_neg h0] at hM
      cases hM
end N9
