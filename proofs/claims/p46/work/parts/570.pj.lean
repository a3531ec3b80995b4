/-! The class reads a text. -/
section PJ
variable {σ τ υ : zS} {X u p w c : Nat} {tx : List Int32} {D : pD}
theorem ow_loop (h : PSh σ X u tx) (g : PG X u tx σ pD0 0 τ) : ∃ o, zloop (sX5_read_33 (X + 3)) zfuel (τ, zi 0) = some o ∧ (match plp tx 300 pD0 0 with | .inl e => ∃ υ, o = .inl υ ∧ PBad X u σ υ e | .inr a => ∃ υ, o = .inr υ ∧ PG X u tx σ a.1 a.2 υ) := by
  generalize hR : plp tx 300 pD0 0 = R
  refine zloop_run 300 (fun i z => z.2 = zi (i : Nat) ∧ ∃ D p, PG X u tx σ D p z.1 ∧ pDok D ∧ plp tx (300 - i) D p = R) _ (fun i z hi hp => ?_) (fun z hp => ?_) (zfuel_lt (by omega)) ⟨rfl, pD0, 0, g, pDok_0, hR⟩
  · obtain ⟨z, v⟩ := z
    obtain ⟨q, D, p, g1, d1, e1⟩ := hp
    dsimp only at q g1
    subst q
    have h1 := PG_sh h g1
    rw [show 300 - i = (300 - (i + 1)) + 1 by omega] at e1
    unfold plp at e1
    unfold sX5_read_33 sX5_read_33b
    dsimp only
    rw [if_neg (show ¬ zi 300 ≤ zi (i : Nat) by rw [zi_le (by omega) (by omega) (by omega) (by omega)]; omega), pg_i h1, Option.bind_some, g1.2.2.1.1]
    have hk := ppk_le (tx := tx) (p := pF tx p)
    by_cases k0 : pK tx p = 0
    · rw [if_pos k0] at e1
      rw [if_pos (show zi (pK tx p) = zi 0 by rw [k0]; rfl), ← e1]
      exact Or.inr ⟨_, rfl, z, rfl, g1⟩
    · rw [if_neg k0] at e1
      rw [if_neg (show ¬ zi (pK tx p) = zi 0 by rw [zi_eq (by unfold pK; omega) (by unfold pK; omega) (by omega) (by omega)]; omega), pck5 h1]
      have hs := ow_st h g1 (d1.2.2.1 D.1 (Nat.le_refl _)).2 (pDok_v d1)
      cases hr : pst tx D p with
      | inl e =>
        rw [hr] at hs e1
        obtain ⟨υ, w1, w2⟩ := hs
        rw [w1, Option.bind_some, ← e1]
        exact Or.inr ⟨.inl υ, if_pos rfl, υ, rfl, w2⟩
      | inr a =>
        rw [hr] at hs e1
        obtain ⟨υ, w1, w2⟩ := hs
        obtain ⟨d2, -, -⟩ := pst_ok d1 g1.2.2.2.2 hr
        rw [w1, Option.bind_some]
        dsimp only
        rw [if_neg z10, zi_add]
        exact Or.inl ⟨_, rfl, rfl, a.1, a.2, w2, d2, e1⟩
  · obtain ⟨z, v⟩ := z
    obtain ⟨q, D, p, g1, d1, e1⟩ := hp
    dsimp only at q g1
    subst q
    rw [← e1]
    refine ⟨.inr z, ?_, z, rfl, g1⟩
    unfold sX5_read_33 sX5_read_33b
    exact if_pos (show zi 300 ≤ zi ((300 : Nat) : Int) by decide)
theorem ow_read (hk : (σ.1 (X + 3)).1 = 10) (h : PSh (zuR σ (X + 3) 3 (some u)) X u tx) : match ppa tx with | .inl e => ∃ υ, fX5_read σ (X + 3) u = some (υ, zi 0) ∧ PBad X u (zuR σ (X + 3) 3 (some u)) υ e | .inr D => ∃ υ, fX5_read σ (X + 3) u = some (υ, zi 1) ∧ pfr X u (zuR σ (X + 3) 3 (some u)) υ ∧ (υ.2.1 (X + 3) 0 = zi 0 ∧ υ.2.1 (X + 3) 1 = zi (-1)) ∧ SU υ u (pP D) ∧ PD υ u D := by
  have hu := h.2.2.2.2.1
  have hl := plen h
  obtain ⟨s2, e2, a1, a2, a3, hD⟩ := p_clear h.2.2.2.1
  have f2 : pfr X u (zuR σ (X + 3) 3 (some u)) s2 := ⟨a1, a2, fun a _ h2 => a3 a h2⟩
  have h2 := PSh_fr h f2
  have f3 : pfr X u (zuR σ (X + 3) 3 (some u)) (zuI (zuI (zuI s2 (X + 3) 0 (zi 0)) (X + 3) 1 (zi (-1))) (X + 3) 6 (zi 0)) := pfr_trans f2 (pfr_trans pfr_3 (pfr_trans pfr_3 pfr_3))
  have h3 := PSh_fr h f3
  have r0 : (zuI (zuI (zuI s2 (X + 3) 0 (zi 0)) (X + 3) 1 (zi (-1))) (X + 3) 6 (zi 0)).2.1 (X + 3) 0 = zi 0 := by rw [zuI_rd, if_neg (by omega), zuI_rd, if_neg (by omega), zuI_rd, if_pos rfl]
  have r1 : (zuI (zuI (zuI s2 (X + 3) 0 (zi 0)) (X + 3) 1 (zi (-1))) (X + 3) 6 (zi 0)).2.1 (X + 3) 1 = zi (-1) := by rw [zuI_rd, if_neg (by omega), zuI_rd, if_pos rfl]
  obtain ⟨s4, e4, p1, p2⟩ := pl_adv (p0 := 0) h3 (by rw [zuI_rd, if_pos rfl]; rfl) (by omega)
  have hD3 : PD (zuI (zuI (zuI s2 (X + 3) 0 (zi 0)) (X + 3) 1 (zi (-1))) (X + 3) 6 (zi 0)) u pD0 := by
    have r : ∀ a, a ≠ X + 3 → (zuI (zuI (zuI s2 (X + 3) 0 (zi 0)) (X + 3) 1 (zi (-1))) (X + 3) 6 (zi 0)).2.1 a = s2.2.1 a := fun a ha => (show _ = _ from zu_off _ _ _ ha).trans ((show _ = _ from zu_off _ _ _ ha).trans (zu_off _ _ _ ha))
    unfold PD NM
    rw [r u (by omega), r (u + 1) (by omega), r (u + 2) (by omega), r (u + 3) (by omega), r (u + 4) (by omega), r (u + 5) (by omega), r (u + 6) (by omega)]
    exact hD
  have g4 : PG X u tx (zuI (zuI (zuI s2 (X + 3) 0 (zi 0)) (X + 3) 1 (zi (-1))) (X + 3) 6 (zi 0)) pD0 0 s4 := ⟨pfT_pfr p1, fun j hj => p1.2.2.2 j (by omega) (by omega) (by omega), p2, PD_P hu hD3 (pfT_P p1), by omega⟩
  have h2a : PSh (zuI s2 (X + 3) 0 (zi 0)) X u tx := PSh_fr h2 pfr_3
  have h2b : PSh (zuI (zuI s2 (X + 3) 0 (zi 0)) (X + 3) 1 (zi (-1))) X u tx := PSh_fr h2a pfr_3
  have e0 : ∀ o, zloop (sX5_read_33 (X + 3)) zfuel (s4, zi 0) = some o → fX5_read σ (X + 3) u = (match o with | (.inl z14) => zrZ z14 ((zi 0)) | (.inr z15) => jX5_read_62 z15 (X + 3)) := by
    intro o e5
    unfold fX5_read
    rw [show zpR 5 3 σ (X + 3) (some u) = some (zuR σ (X + 3) 3 (some u)) from if_pos hk, Option.bind_some, pg_s h, Option.bind_some, pck7 h, e2, Option.bind_some, pp_i h2, Option.bind_some, pp_i h2a, Option.bind_some, pp_i h2b, Option.bind_some, pck5 h3, e4, Option.bind_some, e5, Option.bind_some]
    cases o <;> rfl
  obtain ⟨o, e5, ho⟩ := ow_loop h3 g4
  rw [e0 o e5]
  clear e0 e5
  unfold ppa
  cases hr : plp tx 300 pD0 0 with
  | inl e =>
    rw [hr] at ho
    obtain ⟨υ, rfl, w2⟩ := ho
    exact ⟨υ, zrZ0, PBad_fr f3 w2⟩
  | inr a =>
    rw [hr] at ho
    obtain ⟨υ, rfl, g6⟩ := ho
    have h6 := PG_sh h3 g6
    obtain ⟨d1, d2, d3⟩ := plp_ok 300 pD0 0 a pDok_0 (by omega) (by omega) hr
    unfold jX5_read_62 pb
    dsimp only
    rw [pg_s h6, Option.bind_some, sg_i h6.2.2.2.1, Option.bind_some, g6.2.2.2.1.1.2]
    have := d1.1
    by_cases n0 : a.1.1 = 0
    · rw [if_pos (show zi (a.1.1 : Int) = zi 0 by rw [n0]; rfl), if_pos n0]
      obtain ⟨s7, r7, b7⟩ := pl_refuse (c := 5) h6 g6.2.2.1.2.1
      refine ⟨s7, ?_, PBad_fr (pfr_trans f3 g6.1) b7⟩
      rw [pck5 h6, show fX5_refuse υ (X + 3) (zi 5) = some (s7, zi 0) from r7]
      exact zrZ0
    · rw [if_neg (show ¬ zi (a.1.1 : Int) = zi 0 by rw [zi_eq (by omega) (by omega) (by omega) (by omega)]; omega), if_neg n0]
      obtain ⟨-, -, q1, q2⟩ := ppa_ok (D := a.1) hl (by unfold ppa pb; rw [hr]; exact if_neg n0)
      obtain ⟨s7, e7, ⟨c1, c2, c3⟩, c4, c5⟩ := p_finish h6.2.2.2.1 g6.2.2.2.1 (pDok_v d1) q2 q1
      refine ⟨s7, ?_, pfr_trans f3 (pfr_trans g6.1 ⟨c1, c2, fun b _ b2 => c3 b b2⟩), ⟨?_, ?_⟩, c4, c5⟩
      · rw [Option.bind_some, pck7 h6, e7]
        exact zrZ1
      · rw [c3 (X + 3) (by omega), g6.2.1 0 (by omega), r0]
      · rw [c3 (X + 3) (by omega), g6.2.1 1 (by omega), r1]
end PJ
