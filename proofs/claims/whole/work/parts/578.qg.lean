/-! The reference's parser: the whole text. -/
section QG
variable {σ τ υ : zS} {m p k w K : Nat} {tx : List Int32} {D : pD} {e : Nat × Nat}
theorem rb_55 (h : RSh σ m tx) (g : RB m σ e τ) : jX10_statement_55 τ m = some τ := by
  have hs := RSh_r h g.1
  have j69 : ∀ y, jX10_statement_69 τ m y m = some τ := fun y => by
    unfold jX10_statement_69
    rw [rb_needs h g, rck9 hs, Option.bind_some, rb_goOn h g, rck9 hs]
    rfl
  unfold jX10_statement_55
  simp only [rg_i hs.1, Option.bind_some, j69, ite_self]
theorem rg_55 (h : RSh σ m tx) (g : RG m tx σ D K p τ) : ∃ υ, jX10_statement_55 τ m = some υ ∧ RO m tx σ K (pb (psm tx p) fun p2 => .inr (D, p2)) υ := by
  have hs := RSh_r h g.1
  have hl := rtk_le (tx := tx) (p := p)
  unfold jX10_statement_55 jX10_statement_69 psm
  rw [rg_i hs.1, Option.bind_some, g.2.2.1.2.2.1]
  by_cases k3 : pK tx p = 3
  · obtain ⟨υ, e1, e2, -⟩ := rg_goOn h g
    rw [if_pos (show zi (rtk tx p) = zi 3 by rw [rtk_3.2 k3]; rfl), if_pos k3, rck9 hs, rg_needs1 h g, Option.bind_some, rck9 hs, e1]
    exact ⟨υ, rfl, e2⟩
  · obtain ⟨s1, e1, g1⟩ := rg_needs0 (c := 1) h g (by omega) (by omega)
    rw [if_neg (show ¬ zi (rtk tx p) = zi 3 by rw [zi_eq (by omega) (by omega) (by omega) (by omega)]; have := rtk_3 (tx := tx) (p := p); omega), if_neg k3, rck9 hs, show fX10_needs τ m (zi 0) (zi 1) = some s1 from e1, Option.bind_some, rck9 (RSh_r h g1.1), rb_goOn h g1]
    exact ⟨s1, rfl, g1⟩
theorem rg_st (h : RSh σ m tx) (g : RG m tx σ D K p τ) (hK : pmk D K) (hD : pDok D) : ∃ υ L, fX10_statement τ m = some υ ∧ RO m tx σ L (pst tx D p) υ ∧ ∀ a, pst tx D p = .inr a → pmk a.1 L := by
  have hs := RSh_r h g.1
  have hl := rtk_le (tx := tx) (p := p)
  have hwl := rwd_le (o := pW tx p)
  have bad : ∃ υ, jX10_statement_49 τ m = some υ ∧ RB m σ (1, pF tx p) υ := by
    obtain ⟨s1, e1, g1⟩ := rg_needs0 (c := 1) h g (by omega) (by omega)
    unfold jX10_statement_49
    rw [rck9 hs, show fX10_needs τ m (zi 0) (zi 1) = some s1 from e1, Option.bind_some, rb_55 h g1]
    exact ⟨s1, rfl, g1⟩
  have ew : fX10_isWord τ m (zi 5) = some (τ, zb (decide (pW tx p = some 0))) := rg_isWord (w := 0) h g (by omega)
  unfold fX10_statement
  rw [rck9 hs, ew, Option.bind_some]
  dsimp only
  by_cases e0 : pW tx p = some 0
  · rw [decide_eq_true e0, if_neg zt, rck9 hs]
    obtain ⟨s1, e1, g1⟩ := rg_src h g hD
    rw [e1, Option.bind_some]
    unfold pst
    rw [e0]
    dsimp only
    rw [if_pos rfl]
    cases hr : psr tx D p with
    | inl x =>
      rw [hr] at g1
      exact ⟨s1, K, rb_55 h g1, g1, fun a q => (by cases q)⟩
    | inr a =>
      rw [hr] at g1
      obtain ⟨υ, e2, g2⟩ := rg_55 h g1
      refine ⟨υ, K, e2, g2, fun b q => ?_⟩
      obtain ⟨a2, ha2, q⟩ := pb_inr q
      cases ha2
      obtain ⟨p2, -, q2⟩ := pb_inr q
      cases q2
      have hst : a.1.2.2.2.2.2 = D.2.2.2.2.2 := by
        unfold psr at hr
        split at hr
        · cases hr
        · obtain ⟨_, -, hr⟩ := pb_inr hr
          obtain ⟨_, -, hr⟩ := pb_inr hr
          obtain ⟨_, -, hr⟩ := pb_inr hr
          obtain ⟨_, -, hr⟩ := pb_inr hr
          obtain ⟨_, -, hr⟩ := pb_inr hr
          obtain ⟨_, -, hr⟩ := pb_inr hr
          cases hr
          rfl
      unfold pmk
      dsimp only
      rw [hst]
      exact hK
  · rw [decide_eq_false e0, if_pos zf, rg_i hs.1, Option.bind_some, g.2.2.1.2.2.1]
    unfold pst
    by_cases k1 : pK tx p = 1
    · rw [if_pos (show zi (rtk tx p) = zi 1 by rw [rtk_1.2 k1]; rfl), rg_i hs.1, Option.bind_some, g.2.2.1.2.2.2.1 k1, f_in (a := rwd (pW tx p)) (l := 0) (h := 4) (l_zi ⟨by omega, by omega⟩) rfl rfl, Option.bind_some]
      dsimp only
      cases hW : pW tx p with
      | none =>
        rw [decide_eq_false (show ¬ (0 ≤ rwd none ∧ rwd none ≤ 4) by decide), if_pos zf]
        obtain ⟨υ, e1, e2⟩ := bad
        exact ⟨υ, K, e1, e2, fun a q => (by cases q)⟩
      | some w =>
        have hw := pW_lt hW
        have hw0 : w ≠ 0 := fun q => e0 (by rw [hW, q])
        dsimp only
        rw [if_neg hw0]
        by_cases h4 : 4 ≤ w
        · have er : rwd (some w) = ((w - 4 : Nat) : Int) := by
            unfold rwd
            dsimp only
            omega
          rw [er, decide_eq_true (show 0 ≤ ((w - 4 : Nat) : Int) ∧ ((w - 4 : Nat) : Int) ≤ 4 by omega), if_neg zt, if_pos h4, rg_i hs.1, Option.bind_some, g.2.2.1.2.2.2.1 k1, hW, er, rck9 hs]
          obtain ⟨s1, e1, g1⟩ := rg_set h g hK hw h4
          rw [e1, Option.bind_some]
          cases hr : pse tx D w p with
          | inl x =>
            rw [hr] at g1
            exact ⟨s1, K, rb_55 h g1, g1, fun a q => (by cases q)⟩
          | inr a =>
            rw [hr] at g1
            obtain ⟨υ, e2, g2⟩ := rg_55 h g1
            refine ⟨υ, K + 2 ^ (w - 4), e2, g2, fun b q => ?_⟩
            obtain ⟨a2, ha2, q⟩ := pb_inr q
            cases ha2
            obtain ⟨p2, -, q2⟩ := pb_inr q
            cases q2
            unfold pse at hr
            split at hr
            next hn =>
              split at hr
              next h8 =>
                subst h8
                cases hr
                exact pmk_in hK (by omega) hn 1
              next =>
                obtain ⟨c, -, hr⟩ := pb_inr hr
                cases hr
                exact pmk_in hK (by omega) hn c.1
            next => cases hr
        · have er : 5 ≤ rwd (some w) := by
            unfold rwd
            dsimp only
            omega
          rw [decide_eq_false (show ¬ (0 ≤ rwd (some w) ∧ rwd (some w) ≤ 4) by omega), if_pos zf, if_neg h4]
          obtain ⟨υ, e1, e2⟩ := bad
          exact ⟨υ, K, e1, e2, fun a q => (by cases q)⟩
    · rw [if_neg (show ¬ zi (rtk tx p) = zi 1 by rw [zi_eq (by omega) (by omega) (by omega) (by omega)]; have := rtk_1 (tx := tx) (p := p); omega)]
      have hW : pW tx p = none := by
        unfold pW
        rw [if_neg k1]
      rw [hW]
      obtain ⟨υ, e1, e2⟩ := bad
      exact ⟨υ, K, e1, e2, fun a q => (by cases q)⟩
theorem rg_loop (h : RSh σ m tx) (g : RG m tx σ pD0 0 0 τ) : ∃ o, zloop (sX10_parse_23 m) zfuel τ = some o ∧ match plp tx 300 pD0 0 with | .inl e => RB m σ e o | .inr a => ∃ K, RG m tx σ a.1 K a.2 o := by
  have hl := rlen h
  generalize hR : plp tx 300 pD0 0 = R
  have stop : ∀ (s : zS) (e : Nat × Nat), RB m σ e s → sX10_parse_23 m s = some (.inr s) := fun s e gb => by
    have h1 := RSh_r h gb.1
    unfold sX10_parse_23 sX10_parse_23b
    rw [rb_fine h gb, rck9 h1, Option.bind_some]
    exact if_pos rfl
  refine zloop_run 301 (fun i s => (∃ D K p, RG m tx σ D K p s ∧ pmk D K ∧ pDok D ∧ i ≤ p ∧ i ≤ 300 ∧ plp tx (300 - i) D p = R) ∨ ∃ e, R = .inl e ∧ RB m σ e s) _ (fun i s hi hp => ?_) (fun s hp => ?_) (zfuel_lt (by omega)) (Or.inl ⟨pD0, 0, 0, g, ⟨by decide, fun w _ => by
    have : (0 : Nat) / 2 ^ w % 2 = 0 := by rw [Nat.zero_div]
    rw [this]
    exact ⟨fun q => by omega, fun q => absurd rfl q⟩⟩, pDok_0, by omega, by omega, hR⟩)
  · rcases hp with ⟨D, K, p, g1, g2, g3, g4, g5, g6⟩ | ⟨e, rfl, gb⟩
    · have h1 := RSh_r h g1.1
      have htl := rtk_le (tx := tx) (p := p)
      unfold sX10_parse_23 sX10_parse_23b
      rw [rg_fine h g1, rck9 h1, Option.bind_some]
      dsimp only
      rw [if_neg z10, rg_i h1.1, Option.bind_some, g1.2.2.1.2.2.1]
      by_cases k0 : pK tx p = 0
      · rw [if_pos (show zi (rtk tx p) = zi 0 by rw [rtk_0.2 k0]; rfl)]
        have : plp tx (300 - i) D p = .inr (D, p) := by
          cases 300 - i with
          | zero => rfl
          | succ n =>
            unfold plp
            rw [if_pos k0]
        rw [this] at g6
        subst g6
        exact Or.inr ⟨s, rfl, K, g1⟩
      · rw [if_neg (show ¬ zi (rtk tx p) = zi 0 by rw [zi_eq (by omega) (by omega) (by omega) (by omega)]; have := rtk_0 (tx := tx) (p := p); omega), rck9 h1]
        have hlt : p < tx.length := by
          by_cases e : p < tx.length
          · exact e
          · have h3 := pF_in g1.2.2.2.2
            exact absurd (ppk_0.2 (show tx.length ≤ pF tx p by omega)) k0
        rw [show 300 - i = (300 - (i + 1)) + 1 by omega] at g6
        unfold plp at g6
        rw [if_neg k0] at g6
        obtain ⟨υ, L, e1, e2, e3⟩ := rg_st h g1 g2 g3
        rw [e1, Option.bind_some]
        refine Or.inl ⟨υ, rfl, ?_⟩
        cases hr : pst tx D p with
        | inl x =>
          rw [hr] at e2 g6
          exact Or.inr ⟨x, g6.symm, e2⟩
        | inr a =>
          rw [hr] at e2 g6
          obtain ⟨d1, d2, d3⟩ := pst_ok g3 g1.2.2.2.2 hr
          exact Or.inl ⟨a.1, L, a.2, e2, e3 a hr, d1, by omega, by omega, g6⟩
    · exact Or.inr ⟨s, stop s e gb, gb⟩
  · rcases hp with ⟨D, K, p, g1, g2, g3, g4, g5, g6⟩ | ⟨e, rfl, gb⟩
    · omega
    · exact ⟨s, stop s e gb, gb⟩
end QG
