/-! The setups, the past and the class's object are made. -/
section NX
variable {σ τ σ0 : zS} {x n o j k len hi X : Nat} {q : Nat × Nat} {ks rs k1 r1 : List (Nat × Nat × Nat)} {is i1 : List (Nat × Nat × Int)}
theorem SK_int (h : SK x σ ks rs is) (e1 : τ.1 = σ.1) (e2 : τ.2.2 = σ.2.2) (e3 : ∀ a, (a < x + n ∨ x + n + len ≤ a) → τ.2.1 a = σ.2.1 a) (h3 : is.all (fun p => decide (p.1 < n ∨ n + len ≤ p.1)) = true) : SK x τ ks rs is := by
  refine ⟨fun p hp => by rw [e1]; exact h.1 p hp, fun p hp => by rw [e2]; exact h.2.1 p hp, fun p hp => ?_⟩
  have := of_decide_eq_true (List.all_eq_true.mp h3 p hp)
  rw [e3 _ (by omega)]
  exact h.2.2 p hp
theorem SK_new0 (js : List Nat) : SK x (znew σ x q) [(0, q)] [] (js.map (fun j => (0, j, 0))) := by
  refine ⟨fun p hp => by rw [List.mem_singleton.mp hp]; exact znew_k, fun p hp => (by cases hp), fun p hp => ?_⟩
  obtain ⟨j, -, rfl⟩ := List.mem_map.mp hp
  have e : (znew σ x q).2.1 x = fun _ => 0 := if_pos rfl
  show (znew σ x q).2.1 (x + 0) j = zi 0
  rw [Nat.add_zero, e]
  rfl
theorem st_sR {f : zS → Option zS} {P : zS → Prop} (h : SK x σ ks rs is) (g : zgr x (x + hi) σ0 σ) (hk : (o, 4, 6) ∈ ks) (hb : (σ.1 (x + n)).1 = 6) (i : Nat) (h6 : i < 6) (ho : o < hi) (h4 : rs.all (fun p => decide (p.1 ≠ o ∨ p.2.1 ≠ i)) = true)
    (kk : ∀ σ', SK x σ' ks ((o, i, n) :: rs) is → zgr x (x + hi) σ0 σ' → zgr (x + o) (x + o + 1) σ σ' → ∃ τ, f σ' = some τ ∧ P τ) : ∃ τ, (zsR σ (x + o) (zi (i : Int)) (x + n)).bind f = some τ ∧ P τ := by
  have hs := SK_R (o := o) (j := i) (n := n) h h4
  have e1 : σ.1 (x + o) = (4, 6) := SK_k h o (4, 6) hk
  have en : (zi (i : Int)).toNatClampNeg = i := by rw [zi_nat (by omega) (by omega), Int.toNat_natCast]
  have e : zsR σ (x + o) (zi (i : Int)) (x + n) = some (zuR σ (x + o) i (some (x + n))) := by
    unfold zsR
    rw [e1, en, if_pos ⟨rfl, hb⟩, if_neg]
    intro q
    rcases q with q | q
    · have q2 : zi (i : Int) < zi 0 := q
      rw [zi_lt (by omega) (by omega) (by omega) (by omega)] at q2
      omega
    · exact absurd (show 6 ≤ i from q) (by omega)
  obtain ⟨τ, a1, a2⟩ := kk _ hs (zgr_trans g (zgr_wide (zgr_fr zfr_R) (by omega) (by omega))) (zgr_fr zfr_R)
  exact ⟨τ, by rw [e, Option.bind_some]; exact a1, a2⟩
abbrev KX7 : List (Nat × Nat × Nat) := [(0, 12, 0), (1, 1, 4), (2, 1, 4), (3, 1, 4), (4, 1, 4), (5, 2, 32), (6, 1, 5), (7, 1, 800), (8, 1, 800), (9, 1, 800)]
abbrev QX7 : List (Nat × Nat × Nat) := [(0, 2, 1), (0, 3, 2), (0, 4, 3), (0, 5, 4), (0, 6, 5), (0, 7, 6), (0, 8, 7), (0, 9, 8), (0, 10, 9)]
theorem sush_of {u : Nat} (h : SK u σ KX7 QX7 is) : sush σ u := by
  refine ⟨congrArg Prod.fst (SK_k h 0 (12, 0) (by decide)), fun j h1 h2 => ?_, ⟨SK_k h 1 (1, 4) (by decide), SK_k h 2 (1, 4) (by decide), SK_k h 3 (1, 4) (by decide), SK_k h 4 (1, 4) (by decide), SK_k h 5 (2, 32) (by decide), SK_k h 6 (1, 5) (by decide)⟩, SK_k h 7 (1, 800) (by decide), SK_k h 8 (1, 800) (by decide), SK_k h 9 (1, 800) (by decide)⟩
  have L : ∀ j, 2 ≤ j → j ≤ 10 → (0, j, j - 1) ∈ QX7 := by
    intro j h1 h2
    have : j = 2 ∨ j = 3 ∨ j = 4 ∨ j = 5 ∨ j = 6 ∨ j = 7 ∨ j = 8 ∨ j = 9 ∨ j = 10 := by omega
    rcases this with rfl | rfl | rfl | rfl | rfl | rfl | rfl | rfl | rfl <;> decide
  exact SK_r h 0 j (j - 1) (L j h1 h2)
theorem n_X7 (h : σ.1 x = (12, 0)) : ∃ τ, gX7_init σ (x + 1) x = some τ ∧ zgr x (x + 10) σ τ ∧ SK x τ KX7 QX7 [] ∧ True := by
  unfold gX7_init
  simp only [Nat.add_assoc, Nat.reduceAdd]
  refine st_arr (o := 0) (n := 1) (hi := 10) (SK_nil h) zgr_refl 12 (by decide) rfl (by omega) (by omega) (by decide) (by decide) (by decide) (by decide) (by omega) (fun σ1 h1 g1 => ?_)
  refine st_arr (o := 0) (n := 2) (hi := 10) h1 g1 12 (by decide) rfl (by omega) (by omega) (by decide) (by decide) (by decide) (by decide) (by omega) (fun σ2 h2 g2 => ?_)
  refine st_arr (o := 0) (n := 3) (hi := 10) h2 g2 12 (by decide) rfl (by omega) (by omega) (by decide) (by decide) (by decide) (by decide) (by omega) (fun σ3 h3 g3 => ?_)
  refine st_arr (o := 0) (n := 4) (hi := 10) h3 g3 12 (by decide) rfl (by omega) (by omega) (by decide) (by decide) (by decide) (by decide) (by omega) (fun σ4 h4 g4 => ?_)
  refine st_arr (o := 0) (n := 5) (hi := 10) h4 g4 12 (by decide) rfl (by omega) (by omega) (by decide) (by decide) (by decide) (by decide) (by omega) (fun σ5 h5 g5 => ?_)
  refine st_arr (o := 0) (n := 6) (hi := 10) h5 g5 12 (by decide) rfl (by omega) (by omega) (by decide) (by decide) (by decide) (by decide) (by omega) (fun σ6 h6 g6 => ?_)
  refine st_arr (o := 0) (n := 7) (hi := 10) h6 g6 12 (by decide) rfl (by omega) (by omega) (by decide) (by decide) (by decide) (by decide) (by omega) (fun σ7 h7 g7 => ?_)
  refine st_arr (o := 0) (n := 8) (hi := 10) h7 g7 12 (by decide) rfl (by omega) (by omega) (by decide) (by decide) (by decide) (by decide) (by omega) (fun σ8 h8 g8 => ?_)
  refine st_arr (o := 0) (n := 9) (hi := 10) h8 g8 12 (by decide) rfl (by omega) (by omega) (by decide) (by decide) (by decide) (by decide) (by omega) (fun σ9 h9 g9 => ?_)
  exact ⟨σ9, rfl, g9, SK_sub h9 (by decide) (by decide) (by decide), trivial⟩
/-- the draft behind a new object -/
abbrev Dp : pD := (1, fun _ => 0, fun _ => 0, fun _ => 0, fun s => if s = 0 then [zi 97] else [], fun _ => none)
theorem Dp_v : ∀ k v, Dp.2.2.2.2.2 k = some v → v < 1000 := fun k v h => by cases h
theorem Dp_P : qPok (pP Dp) := ⟨by decide, by decide, by decide, by decide, fun s => by show 0 ≤ 200; omega, fun s _ => rfl, fun s => by show 0 ≤ 999; omega⟩
theorem Dp_ok : pDok Dp := by
  refine ⟨by decide, fun s => ⟨by show 0 ≤ 200; omega, by show 0 ≤ 999; omega, by show 0 ≤ 9; omega⟩, fun s _ => ⟨rfl, rfl⟩, fun s h => ?_, fun k v h => (by cases h)⟩
  have h1 : s < 1 := h
  have : s = 0 := by omega
  subst this
  refine ⟨by decide, by decide, fun c hc => ?_⟩
  have : c = zi 97 := List.mem_singleton.mp hc
  subst this
  decide
theorem n_plain {u : Nat} (hs : sush σ u) : ∃ υ, fX7_makePlain σ u = some υ ∧ (υ.1 = σ.1 ∧ υ.2.2 = σ.2.2 ∧ (∀ a, (a < u ∨ u + 10 ≤ a) → υ.2.1 a = σ.2.1 a)) ∧ SU υ u (pP Dp) ∧ PD υ u Dp := by
  obtain ⟨c, e1, c1, c2, c3, hc⟩ := p_clear hs
  have hsc : sush c u := by
    unfold sush
    rw [c1, c2]
    exact hs
  obtain ⟨s3, hs3⟩ : ∃ s3, s3 = zuI (zuI (zuI c u 0 (zi 1)) (u + 5) 0 (b8 (zi 97))) (u + 4) 0 (zi 1) := ⟨_, rfl⟩
  have h3 : sush s3 u := by rw [hs3]; exact hsc
  have rd : ∀ a, a ≠ u → a ≠ u + 5 → a ≠ u + 4 → s3.2.1 a = c.2.1 a := fun a a1 a2 a3 => by
    rw [hs3]
    unfold zuI
    dsimp only
    rw [zu_off _ _ _ a3, zu_off _ _ _ a2, zu_off _ _ _ a1]
  have hP : PD s3 u Dp := by
    refine ⟨⟨by decide, ?_⟩, fun s hs4 => ?_, fun s hs1 => ?_, fun k hk => ?_⟩
    · rw [hs3, zuI_row, if_neg (by omega), zuI_row, if_neg (by omega), zuI_row, if_pos ⟨rfl, rfl⟩]
      rfl
    · rw [rd (u + 1) (by omega) (by omega) (by omega), rd (u + 2) (by omega) (by omega) (by omega), rd (u + 3) (by omega) (by omega) (by omega)]
      exact hc.2.1 s hs4
    · have hs2 : s < 1 := hs1
      have : s = 0 := by omega
      subst this
      refine ⟨?_, by decide, fun i hi => ?_⟩
      · rw [hs3, zuI_row, if_pos ⟨rfl, rfl⟩]
        rfl
      · have hi1 : i < 1 := hi
        have : i = 0 := by omega
        subst this
        rw [hs3, zuI_row, if_neg (by omega), zuI_row, if_pos ⟨rfl, rfl⟩, show b8 (zi 97) = zi 97 from b8_zi 97 (by omega)]
        rfl
    · rw [rd (u + 6) (by omega) (by omega) (by omega)]
      exact hc.2.2.2 k hk
  obtain ⟨υ, e2, ⟨f1, f2, f3⟩, hU, hD⟩ := p_finish h3 hP Dp_v (by decide) Dp_P
  refine ⟨υ, ?_, ⟨by rw [f1, hs3]; exact c1, by rw [f2, hs3]; exact c2, fun a ha => ?_⟩, hU, hD⟩
  · have ck : ∀ (s : zS) (o : Option zS), sush s u → zck 7 s u o = o := fun s o h => if_pos h.1
    unfold fX7_makePlain
    rw [ck σ _ hs, e1, Option.bind_some, show zpI 7 0 c u (zi 1) = some (zuI c u 0 (zi 1)) from if_pos hsc.1, Option.bind_some, sg_r (j := 6) (sush_uI hsc) (by omega) (by omega), Option.bind_some, show (zi 0) = zi ((0 : Nat) : Int) from rfl, zsB_of (σ := zuI c u 0 (zi 1)) 0 hsc.2.2.1.2.2.2.2.1 rfl (by omega) (by omega), Option.bind_some, sg_r (σ := zuI (zuI c u 0 (zi 1)) (u + (6 - 1)) 0 (b8 (zi 97))) (j := 5) (sush_uI (sush_uI hsc)) (by omega) (by omega), Option.bind_some, zsI_of (σ := zuI (zuI c u 0 (zi 1)) (u + (6 - 1)) 0 (b8 (zi 97))) 0 hsc.2.2.1.2.2.2.1 rfl (by omega) (by omega), Option.bind_some]
    rw [show zuI (zuI (zuI c u 0 (zi 1)) (u + (6 - 1)) 0 (b8 (zi 97))) (u + (5 - 1)) 0 (zi 1) = s3 from hs3.symm, ck s3 _ h3, e2, Option.bind_some]
  · rw [f3 a ha, rd a (by omega) (by omega) (by omega)]
    exact c3 a ha
/-- the setups' words, which stay -/
def SF (σ : zS) (X : Nat) : Prop := sush σ (X + 6) ∧ sush σ (X + 16) ∧ SU σ (X + 6) (pP Dp) ∧ PD σ (X + 6) Dp
theorem PD_eq {u : Nat} {D : pD} (h : PD σ u D) (z : zeq σ τ u (u + 10)) : PD τ u D := by
  have e : ∀ o, o < 10 → τ.2.1 (u + o) = σ.2.1 (u + o) := fun o ho => (z (u + o) (by omega) (by omega)).2.1
  have e0 := e 0 (by omega)
  unfold PD NM
  rw [show τ.2.1 u = σ.2.1 u from e0, e 1 (by omega), e 2 (by omega), e 3 (by omega), e 4 (by omega), e 5 (by omega), e 6 (by omega)]
  exact h
theorem SF_gr {lo : Nat} (h : SF σ X) (g : zgr lo hi σ τ) (hd : hi ≤ X + 6 ∨ X + 26 ≤ lo) : SF τ X :=
  ⟨sush_eq h.1 (zgr_eq g (by omega)), sush_eq h.2.1 (zgr_eq g (by omega)), SU_eq h.2.2.1 (zgr_eq g (by omega)), PD_eq h.2.2.2 (zgr_eq g (by omega))⟩
theorem FZ_k {f u : Nat} {D : pD} (h : FZ σ f u D) : (σ.1 f).1 = 6 := by
  obtain ⟨V, h1, -⟩ := h
  exact h1.1.1
theorem n_X2 (h : SK x σ [(0, 7, 0)] [] [(0, 1, 0)]) : ∃ τ, gX2_init σ (x + 1) x = some τ ∧ zgr x (x + 2) σ τ ∧ SK x τ [(0, 7, 0), (1, 2, 300)] [(0, 0, 1)] [(0, 1, 0)] ∧ True := by
  unfold gX2_init
  refine st_arr (o := 0) (n := 1) (hi := 2) h zgr_refl 7 (by decide) rfl (by omega) (by omega) (by decide) (by decide) (by decide) (by decide) (by omega) (fun σ1 h1 g1 => ?_)
  exact ⟨σ1, rfl, g1, SK_sub h1 (by decide) (by decide) (by decide), trivial⟩
theorem n_X4 (h : SK x σ [(0, 9, 0)] [] [(0, 1, 0)]) : ∃ τ, gX4_init σ (x + 1) x = some τ ∧ zgr x (x + 2) σ τ ∧ SK x τ [(0, 9, 0), (1, 2, 8000)] [(0, 0, 1)] [(0, 1, 0)] ∧ True := by
  unfold gX4_init
  refine st_arr (o := 0) (n := 1) (hi := 2) h zgr_refl 9 (by decide) rfl (by omega) (by omega) (by decide) (by decide) (by decide) (by decide) (by omega) (fun σ1 h1 g1 => ?_)
  exact ⟨σ1, rfl, g1, SK_sub h1 (by decide) (by decide) (by decide), trivial⟩
theorem n_X5 {N t : Nat} (h : (σ.1 x).1 = 10) : gX5_init σ N x t = some (zuR (zuI σ x 1 (zi (-1))) x 2 (some t)) := by
  unfold gX5_init
  rw [zpI_of (k := 5) h, Option.bind_some, zpR_of (σ := zuI σ x 1 (zi (-1))) (k := 5) h, Option.bind_some]
abbrev KX6 : List (Nat × Nat × Nat) := [(0, 11, 0), (1, 4, 6)]
abbrev QX6 : List (Nat × Nat × Nat) := [(0, 2, 1), (1, 0, 2), (1, 1, 33), (1, 2, 64), (1, 3, 95), (1, 4, 126), (1, 5, 157)]
theorem n_X6 {u : Nat} {D : pD} (h : SK x σ [(0, 11, 0)] [] [(0, 0, 0), (0, 1, 0)]) (hu : u + 10 ≤ x) (hs : sush σ u) (hD : PD σ u D) (hv : ∀ k v, D.2.2.2.2.2 k = some v → v < 1000) : ∃ τ, gX6_init σ (x + 1) x u = some τ ∧ zgr x (x + 188) σ τ ∧ SK x τ KX6 QX6 [(0, 0, 0), (0, 1, 0)] ∧ ∀ i, i < 6 → FZ τ (x + (2 + 31 * i)) u D := by
  unfold gX6_init
  simp only [Nat.add_assoc, Nat.reduceAdd]
  have S : ∀ σ', zgr x (x + 188) σ σ' → sush σ' u ∧ PD σ' u D := fun σ' g => ⟨sush_eq hs (zgr_eq g (by omega)), PD_eq hD (zgr_eq g (by omega))⟩
  have S2 : ∀ σ' N q, x ≤ N → zgr x (x + 188) σ σ' → sush (znew σ' N q) u ∧ PD (znew σ' N q) u D := fun σ' N q hN g => ⟨sush_eq (S σ' g).1 (zgr_eq zgr_new (by omega)), PD_eq (S σ' g).2 (zgr_eq zgr_new (by omega))⟩
  refine st_arr (o := 0) (n := 1) (hi := 188) h zgr_refl 11 (by decide) rfl (by omega) (by omega) (by decide) (by decide) (by decide) (by decide) (by omega) (fun σ0 h0 g0 => ?_)
  refine st_get (o := 0) h0 11 1 (by decide) rfl (by decide) ?_
  refine st_sub (n := 2) (len := 31) (hi := 188) (g9 := fun s => gX1_init s (x + 2 + 1) (x + 2) u) h0 g0 [] (by omega) (by omega) (by decide) (by decide) (by decide) (n_X1 znew_k (by omega) (S2 σ0 _ _ (by omega) g0).1 (S2 σ0 _ _ (by omega) g0).2 hv) (fun σ1 h1 g1 y1 z0 => ?_)
  refine st_sR (o := 1) (n := 2) (hi := 188) h1 g1 (by decide) (FZ_k z0) 0 (by omega) (by omega) (by decide) (fun σ2 h2 g2 y2 => ?_)
  replace z0 := FZ_gr z0 y2 (by omega)
  refine st_get (o := 0) h2 11 1 (by decide) rfl (by decide) ?_
  refine st_sub (n := 33) (len := 31) (hi := 188) (g9 := fun s => gX1_init s (x + 33 + 1) (x + 33) u) h2 g2 [] (by omega) (by omega) (by decide) (by decide) (by decide) (n_X1 znew_k (by omega) (S2 σ2 _ _ (by omega) g2).1 (S2 σ2 _ _ (by omega) g2).2 hv) (fun σ3 h3 g3 y3 z1 => ?_)
  refine st_sR (o := 1) (n := 33) (hi := 188) h3 g3 (by decide) (FZ_k z1) 1 (by omega) (by omega) (by decide) (fun σ4 h4 g4 y4 => ?_)
  replace z0 := FZ_gr (FZ_gr z0 y3 (by omega)) y4 (by omega)
  replace z1 := FZ_gr z1 y4 (by omega)
  refine st_get (o := 0) h4 11 1 (by decide) rfl (by decide) ?_
  refine st_sub (n := 64) (len := 31) (hi := 188) (g9 := fun s => gX1_init s (x + 64 + 1) (x + 64) u) h4 g4 [] (by omega) (by omega) (by decide) (by decide) (by decide) (n_X1 znew_k (by omega) (S2 σ4 _ _ (by omega) g4).1 (S2 σ4 _ _ (by omega) g4).2 hv) (fun σ5 h5 g5 y5 z2 => ?_)
  refine st_sR (o := 1) (n := 64) (hi := 188) h5 g5 (by decide) (FZ_k z2) 2 (by omega) (by omega) (by decide) (fun σ6 h6 g6 y6 => ?_)
  replace z0 := FZ_gr (FZ_gr z0 y5 (by omega)) y6 (by omega)
  replace z1 := FZ_gr (FZ_gr z1 y5 (by omega)) y6 (by omega)
  replace z2 := FZ_gr z2 y6 (by omega)
  refine st_get (o := 0) h6 11 1 (by decide) rfl (by decide) ?_
  refine st_sub (n := 95) (len := 31) (hi := 188) (g9 := fun s => gX1_init s (x + 95 + 1) (x + 95) u) h6 g6 [] (by omega) (by omega) (by decide) (by decide) (by decide) (n_X1 znew_k (by omega) (S2 σ6 _ _ (by omega) g6).1 (S2 σ6 _ _ (by omega) g6).2 hv) (fun σ7 h7 g7 y7 z3 => ?_)
  refine st_sR (o := 1) (n := 95) (hi := 188) h7 g7 (by decide) (FZ_k z3) 3 (by omega) (by omega) (by decide) (fun σ8 h8 g8 y8 => ?_)
  replace z0 := FZ_gr (FZ_gr z0 y7 (by omega)) y8 (by omega)
  replace z1 := FZ_gr (FZ_gr z1 y7 (by omega)) y8 (by omega)
  replace z2 := FZ_gr (FZ_gr z2 y7 (by omega)) y8 (by omega)
  replace z3 := FZ_gr z3 y8 (by omega)
  refine st_get (o := 0) h8 11 1 (by decide) rfl (by decide) ?_
  refine st_sub (n := 126) (len := 31) (hi := 188) (g9 := fun s => gX1_init s (x + 126 + 1) (x + 126) u) h8 g8 [] (by omega) (by omega) (by decide) (by decide) (by decide) (n_X1 znew_k (by omega) (S2 σ8 _ _ (by omega) g8).1 (S2 σ8 _ _ (by omega) g8).2 hv) (fun σ9 h9 g9 y9 z4 => ?_)
  refine st_sR (o := 1) (n := 126) (hi := 188) h9 g9 (by decide) (FZ_k z4) 4 (by omega) (by omega) (by decide) (fun σ10 h10 g10 y10 => ?_)
  replace z0 := FZ_gr (FZ_gr z0 y9 (by omega)) y10 (by omega)
  replace z1 := FZ_gr (FZ_gr z1 y9 (by omega)) y10 (by omega)
  replace z2 := FZ_gr (FZ_gr z2 y9 (by omega)) y10 (by omega)
  replace z3 := FZ_gr (FZ_gr z3 y9 (by omega)) y10 (by omega)
  replace z4 := FZ_gr z4 y10 (by omega)
  refine st_get (o := 0) h10 11 1 (by decide) rfl (by decide) ?_
  refine st_sub (n := 157) (len := 31) (hi := 188) (g9 := fun s => gX1_init s (x + 157 + 1) (x + 157) u) h10 g10 [] (by omega) (by omega) (by decide) (by decide) (by decide) (n_X1 znew_k (by omega) (S2 σ10 _ _ (by omega) g10).1 (S2 σ10 _ _ (by omega) g10).2 hv) (fun σ11 h11 g11 y11 z5 => ?_)
  refine st_sR (o := 1) (n := 157) (hi := 188) h11 g11 (by decide) (FZ_k z5) 5 (by omega) (by omega) (by decide) (fun σ12 h12 g12 y12 => ?_)
  replace z0 := FZ_gr (FZ_gr z0 y11 (by omega)) y12 (by omega)
  replace z1 := FZ_gr (FZ_gr z1 y11 (by omega)) y12 (by omega)
  replace z2 := FZ_gr (FZ_gr z2 y11 (by omega)) y12 (by omega)
  replace z3 := FZ_gr (FZ_gr z3 y11 (by omega)) y12 (by omega)
  replace z4 := FZ_gr (FZ_gr z4 y11 (by omega)) y12 (by omega)
  replace z5 := FZ_gr z5 y12 (by omega)
  refine ⟨σ12, rfl, g12, SK_sub h12 (by decide) (by decide) (by decide), fun i hi => ?_⟩
  have : i = 0 ∨ i = 1 ∨ i = 2 ∨ i = 3 ∨ i = 4 ∨ i = 5 := by omega
  rcases this with rfl | rfl | rfl | rfl | rfl | rfl
  · exact z0
  · exact z1
  · exact z2
  · exact z3
  · exact z4
  · exact z5
end NX
