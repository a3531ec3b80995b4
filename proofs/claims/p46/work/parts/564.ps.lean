/-! The class's parser: statements. -/
section PS
variable {σ τ υ : zS} {X u p w c : Nat} {tx : List Int32} {D : pD}
theorem PD_P (hu : X + 6 ≤ u) (h : PD τ u D) (e : pfP X τ υ) : PD υ u D := by
  unfold PD NM
  rw [e.2.2.1 u (by omega), e.2.2.1 (u + 1) (by omega), e.2.2.1 (u + 2) (by omega), e.2.2.1 (u + 3) (by omega), e.2.2.1 (u + 4) (by omega), e.2.2.1 (u + 5) (by omega), e.2.2.1 (u + 6) (by omega)]
  exact h
theorem NM_P {s : Nat} {l : List Int32} (hu : X + 6 ≤ u) (h : NM τ u s l) (e : pfP X τ υ) : NM υ u s l := by
  unfold NM
  rw [e.2.2.1 (u + 4) (by omega), e.2.2.1 (u + 5) (by omega)]
  exact h
theorem pfr_u {a j : Nat} {v : Int32} (h1 : u ≤ a) (h2 : a < u + 10) : pfr X u σ (zuI σ a j v) := ⟨rfl, rfl, fun b _ b2 => zu_off _ _ _ (by omega)⟩
theorem PT_u {a j : Nat} {v : Int32} (hu : X + 6 ≤ u) (h1 : u ≤ a) (h : PT τ X tx p) : PT (zuI τ a j v) X tx p := by
  unfold PT
  rw [show (zuI τ a j v).2.1 (X + 3) = τ.2.1 (X + 3) from zu_off _ _ _ (by omega)]
  exact h
theorem zuI_row {i j : Nat} {v : Int32} {a b : Nat} : (zuI τ a j v).2.1 b i = if b = a ∧ i = j then v else τ.2.1 b i := rfl
/-- a number of the draft's source in the making -/
theorem PD_rec {n v : Nat} (h : PD τ u D) (hn : n = D.1) : PD (zuI τ (u + 1) n (zi v)) u (D.1, qu D.2.1 n v, D.2.2.1, D.2.2.2.1, D.2.2.2.2.1, D.2.2.2.2.2) := by
  obtain ⟨⟨a1, a2⟩, a3, a4, a5⟩ := h
  refine ⟨⟨a1, by rw [zuI_row, if_neg (by omega)]; exact a2⟩, fun s hs => ⟨?_, ?_, ?_⟩, fun s hs => ?_, fun k hk => by rw [zuI_row, if_neg (by omega)]; exact a5 k hk⟩
  · rw [zuI_row]
    dsimp only
    by_cases e : s = n
    · subst e
      rw [if_pos ⟨rfl, rfl⟩, qu_at]
    · rw [if_neg (fun q => e q.2), qu_ne e]
      exact (a3 s hs).1
  · rw [zuI_row, if_neg (by omega)]
    exact (a3 s hs).2.1
  · rw [zuI_row, if_neg (by omega)]
    exact (a3 s hs).2.2
  · obtain ⟨b1, b2, b3⟩ := a4 s hs
    exact ⟨by rw [zuI_row, if_neg (by omega)]; exact b1, b2, fun i hi => by rw [zuI_row, if_neg (by omega)]; exact b3 i hi⟩
theorem PD_seed {n v : Nat} (h : PD τ u D) (hn : n = D.1) : PD (zuI τ (u + 2) n (zi v)) u (D.1, D.2.1, qu D.2.2.1 n v, D.2.2.2.1, D.2.2.2.2.1, D.2.2.2.2.2) := by
  obtain ⟨⟨a1, a2⟩, a3, a4, a5⟩ := h
  refine ⟨⟨a1, by rw [zuI_row, if_neg (by omega)]; exact a2⟩, fun s hs => ⟨?_, ?_, ?_⟩, fun s hs => ?_, fun k hk => by rw [zuI_row, if_neg (by omega)]; exact a5 k hk⟩
  · rw [zuI_row, if_neg (by omega)]
    exact (a3 s hs).1
  · rw [zuI_row]
    dsimp only
    by_cases e : s = n
    · subst e
      rw [if_pos ⟨rfl, rfl⟩, qu_at]
    · rw [if_neg (fun q => e q.2), qu_ne e]
      exact (a3 s hs).2.1
  · rw [zuI_row, if_neg (by omega)]
    exact (a3 s hs).2.2
  · obtain ⟨b1, b2, b3⟩ := a4 s hs
    exact ⟨by rw [zuI_row, if_neg (by omega)]; exact b1, b2, fun i hi => by rw [zuI_row, if_neg (by omega)]; exact b3 i hi⟩
theorem PD_lag {n v : Nat} (h : PD τ u D) (hn : n = D.1) : PD (zuI τ (u + 3) n (zi v)) u (D.1, D.2.1, D.2.2.1, qu D.2.2.2.1 n v, D.2.2.2.2.1, D.2.2.2.2.2) := by
  obtain ⟨⟨a1, a2⟩, a3, a4, a5⟩ := h
  refine ⟨⟨a1, by rw [zuI_row, if_neg (by omega)]; exact a2⟩, fun s hs => ⟨?_, ?_, ?_⟩, fun s hs => ?_, fun k hk => by rw [zuI_row, if_neg (by omega)]; exact a5 k hk⟩
  · rw [zuI_row, if_neg (by omega)]
    exact (a3 s hs).1
  · rw [zuI_row, if_neg (by omega)]
    exact (a3 s hs).2.1
  · rw [zuI_row]
    dsimp only
    by_cases e : s = n
    · subst e
      rw [if_pos ⟨rfl, rfl⟩, qu_at]
    · rw [if_neg (fun q => e q.2), qu_ne e]
      exact (a3 s hs).2.2
  · obtain ⟨b1, b2, b3⟩ := a4 s hs
    exact ⟨by rw [zuI_row, if_neg (by omega)]; exact b1, b2, fun i hi => by rw [zuI_row, if_neg (by omega)]; exact b3 i hi⟩
theorem PD_set {k v : Nat} (h : PD τ u D) : PD (zuI τ (u + 6) k (zi v)) u (D.1, D.2.1, D.2.2.1, D.2.2.2.1, D.2.2.2.2.1, qu D.2.2.2.2.2 k (some v)) := by
  obtain ⟨⟨a1, a2⟩, a3, a4, a5⟩ := h
  refine ⟨⟨a1, by rw [zuI_row, if_neg (by omega)]; exact a2⟩, fun s hs => ⟨?_, ?_, ?_⟩, fun s hs => ?_, fun i hi => ?_⟩
  · rw [zuI_row, if_neg (by omega)]
    exact (a3 s hs).1
  · rw [zuI_row, if_neg (by omega)]
    exact (a3 s hs).2.1
  · rw [zuI_row, if_neg (by omega)]
    exact (a3 s hs).2.2
  · obtain ⟨b1, b2, b3⟩ := a4 s hs
    exact ⟨by rw [zuI_row, if_neg (by omega)]; exact b1, b2, fun i hi => by rw [zuI_row, if_neg (by omega)]; exact b3 i hi⟩
  · rw [zuI_row]
    dsimp only
    by_cases e : i = k
    · subst e
      rw [if_pos ⟨rfl, rfl⟩, qu_at]
    · rw [if_neg (fun q => e q.2), qu_ne e]
      exact a5 i hi
/-- the source is told -/
theorem PD_more {l : List Int32} (h : PD τ u D) (h4 : D.1 < 4) (hN : NM τ u D.1 l) : PD (zuI τ u 0 (zi ((D.1 + 1 : Nat) : Int))) u (D.1 + 1, D.2.1, D.2.2.1, D.2.2.2.1, qu D.2.2.2.2.1 D.1 l, D.2.2.2.2.2) := by
  obtain ⟨⟨a1, a2⟩, a3, a4, a5⟩ := h
  refine ⟨⟨by dsimp only; omega, by rw [zuI_row, if_pos ⟨rfl, rfl⟩]⟩, fun s hs => ⟨?_, ?_, ?_⟩, fun s hs => ?_, fun k hk => by rw [zuI_row, if_neg (by omega)]; exact a5 k hk⟩
  · rw [zuI_row, if_neg (by omega)]
    exact (a3 s hs).1
  · rw [zuI_row, if_neg (by omega)]
    exact (a3 s hs).2.1
  · rw [zuI_row, if_neg (by omega)]
    exact (a3 s hs).2.2
  · dsimp only at hs ⊢
    by_cases e : s = D.1
    · subst e
      rw [qu_at]
      obtain ⟨b1, b2, b3⟩ := hN
      exact ⟨by rw [zuI_row, if_neg (by omega)]; exact b1, b2, fun i hi => by rw [zuI_row, if_neg (by omega)]; exact b3 i hi⟩
    · rw [qu_ne e]
      obtain ⟨b1, b2, b3⟩ := a4 s (by omega)
      exact ⟨by rw [zuI_row, if_neg (by omega)]; exact b1, b2, fun i hi => by rw [zuI_row, if_neg (by omega)]; exact b3 i hi⟩
/-- a name is laid down behind those told -/
theorem pn_set {f t : Nat} (h : PSh τ X u tx) (hD : PD τ u D) (h4 : D.1 < 4) (hft : f ≤ t) (htl : t ≤ tx.length) (h8 : t - f ≤ 8) : ∃ υ, fX7_setName τ u (zi D.1) (X + 2) (zi f) (zi ((t - f : Nat) : Int)) = some υ ∧ pfr X u τ υ ∧ υ.2.1 (X + 3) = τ.2.1 (X + 3) ∧ PD υ u D ∧ NM υ u D.1 (ptx tx f t) := by
  have hl := plen h
  obtain ⟨s1, s2, s3, s4, s5, s6, s7⟩ := id h
  have g : zlen τ (X + 2) = some (zi 300) := by
    unfold zlen
    rw [s3.2.2, if_neg (by decide)]
    rfl
  have hc : zcY τ (X + 2) (zi f) (u + 5) (zi (8 * D.1)) (zi ((t - f : Nat) : Int)) = some (zcp τ (X + 2) f (u + 5) (8 * D.1) (t - f)) := by
    unfold zcY
    have z0 : ∀ a : Int, 0 ≤ a → a < 2147483648 → ¬ zi a < 0 := fun a a1 a2 => by
      rw [show ((0 : Int32) = zi 0) from rfl, zi_lt (by omega) a2 (by omega) (by omega)]
      omega
    have t1 : (zi (f : Int)).toNatClampNeg = f := by rw [zi_nat (by omega) (by omega), Int.toNat_natCast]
    have t2 : (zi (8 * (D.1 : Int))).toNatClampNeg = 8 * D.1 := by
      rw [zi_nat (by omega) (by omega)]
      omega
    have t3 : (zi ((t - f : Nat) : Int)).toNatClampNeg = t - f := by rw [zi_nat (by omega) (by omega), Int.toNat_natCast]
    rw [t1, t2, t3, s3.2.2, s4.2.2.1.2.2.2.2.1, if_pos]
    refine ⟨rfl, rfl, z0 _ (by omega) (by omega), z0 _ (by omega) (by omega), z0 _ (by omega) (by omega), by dsimp only; omega, by dsimp only; omega, ?_⟩
    rw [List.all_eq_true]
    intro i hi
    have hi2 := List.mem_range.1 hi
    rw [s6.2.2 (f + i) (by omega)]
    have hB := s7 (f + i) (by omega)
    unfold pc at hB
    have e1 : (-128 : Int32) ≤ tx.getD (f + i) 0 := Int32.le_iff_toInt_le.2 (by rw [show ((-128 : Int32).toInt = -128) from by decide]; exact hB.1)
    have e2 : tx.getD (f + i) 0 ≤ (127 : Int32) := Int32.le_iff_toInt_le.2 (by rw [show ((127 : Int32).toInt = 127) from by decide]; exact hB.2)
    show (decide _ && decide _) = true
    rw [decide_eq_true e1, decide_eq_true e2]
    rfl
  have r : ∀ b, b ≠ u + 5 → (zcp τ (X + 2) f (u + 5) (8 * D.1) (t - f)).2.1 b = τ.2.1 b := fun b hb => if_neg hb
  refine ⟨zuI (zcp τ (X + 2) f (u + 5) (8 * D.1) (t - f)) (u + 4) D.1 (zi ((t - f : Nat) : Int)), ?_, ⟨rfl, rfl, fun b b1 b2 => ?_⟩, ?_, ?_, ?_, ?_, fun i hi => ?_⟩
  · unfold fX7_setName
    rw [if_neg (show ¬ zi (D.1 : Int) < zi 0 by rw [zi_lt (by omega) (by omega) (by omega) (by omega)]; omega), if_neg (show ¬ zi 4 ≤ zi (D.1 : Int) by rw [zi_le (by omega) (by omega) (by omega) (by omega)]; omega), if_neg (show ¬ zi ((t - f : Nat) : Int) < zi 0 by rw [zi_lt (by omega) (by omega) (by omega) (by omega)]; omega), if_neg (show ¬ zi 8 < zi ((t - f : Nat) : Int) by rw [zi_lt (by omega) (by omega) (by omega) (by omega)]; omega), if_neg (show ¬ zi (f : Int) < zi 0 by rw [zi_lt (by omega) (by omega) (by omega) (by omega)]; omega), g, Option.bind_some, zi_add, if_pos ((zi_le (by omega) (by omega) (by omega) (by omega)).2 (show (f : Int) + (t - f : Nat) ≤ 300 by omega)), sg_r s4 (by omega) (by omega), Option.bind_some, zi_mul, hc, Option.bind_some, sg_r (σ := zcp τ (X + 2) f (u + 5) (8 * D.1) (t - f)) s4 (by omega) (by omega), Option.bind_some, zsI_of (σ := zcp τ (X + 2) f (u + 5) (8 * D.1) (t - f)) D.1 s4.2.2.1.2.2.2.1 rfl h4 (by decide)]
    rfl
  · rw [show (zuI (zcp τ (X + 2) f (u + 5) (8 * D.1) (t - f)) (u + 4) D.1 (zi ((t - f : Nat) : Int))).2.1 b = (zcp τ (X + 2) f (u + 5) (8 * D.1) (t - f)).2.1 b from zu_off _ _ _ (by omega)]
    exact r b (by omega)
  · rw [show (zuI (zcp τ (X + 2) f (u + 5) (8 * D.1) (t - f)) (u + 4) D.1 (zi ((t - f : Nat) : Int))).2.1 (X + 3) = (zcp τ (X + 2) f (u + 5) (8 * D.1) (t - f)).2.1 (X + 3) from zu_off _ _ _ (by omega)]
    exact r _ (by omega)
  · obtain ⟨⟨a1, a2⟩, a3, a4, a5⟩ := hD
    have q : ∀ b i, b ≠ u + 4 → b ≠ u + 5 → (zuI (zcp τ (X + 2) f (u + 5) (8 * D.1) (t - f)) (u + 4) D.1 (zi ((t - f : Nat) : Int))).2.1 b i = τ.2.1 b i := fun b i b1 b2 => by
      rw [zuI_row, if_neg (by omega), r b b2]
    refine ⟨⟨a1, by rw [q _ _ (by omega) (by omega)]; exact a2⟩, fun s hs => ⟨by rw [q _ _ (by omega) (by omega)]; exact (a3 s hs).1, by rw [q _ _ (by omega) (by omega)]; exact (a3 s hs).2.1, by rw [q _ _ (by omega) (by omega)]; exact (a3 s hs).2.2⟩, fun s hs => ?_, fun k hk => by rw [q _ _ (by omega) (by omega)]; exact a5 k hk⟩
    obtain ⟨b1, b2, b3⟩ := a4 s hs
    refine ⟨by rw [zuI_row, if_neg (by omega), r _ (by omega)]; exact b1, b2, fun i hi => ?_⟩
    rw [zuI_row, if_neg (by omega), show (zcp τ (X + 2) f (u + 5) (8 * D.1) (t - f)).2.1 (u + 5) = va_cpy (τ.2.1 (X + 2)) (τ.2.1 (u + 5)) f (8 * D.1) (t - f) from zcp_at]
    unfold va_cpy
    rw [if_neg (by omega)]
    exact b3 i hi
  · rw [zuI_row, if_pos ⟨rfl, rfl⟩, ptx_len htl]
  · rw [ptx_len htl]
    exact h8
  · rw [ptx_len htl] at hi
    rw [zuI_row, if_neg (by omega), show (zcp τ (X + 2) f (u + 5) (8 * D.1) (t - f)).2.1 (u + 5) = va_cpy (τ.2.1 (X + 2)) (τ.2.1 (u + 5)) f (8 * D.1) (t - f) from zcp_at]
    unfold va_cpy
    rw [if_pos (by omega), show f + (8 * D.1 + i - 8 * D.1) = f + i by omega, s6.2.2 _ (by omega), ptx_at hi]
theorem pl_name (h : PSh τ X u tx) (ht : PT τ X tx p) (hD : PD τ u D) (hp : p ≤ tx.length) (h4 : D.1 < 4) : (∀ p2, pna tx D p = .inr p2 → ∃ υ, fX5_readName τ (X + 3) (zi D.1) = some (υ, zi 1) ∧ pfr X u τ υ ∧ (∀ j, j < 2 → υ.2.1 (X + 3) j = τ.2.1 (X + 3) j) ∧ PT υ X tx p2 ∧ PD υ u D ∧ NM υ u D.1 (ptx tx (pF tx p) (pT tx p))) ∧ ∀ e, pna tx D p = .inl e → ∃ υ, fX5_readName τ (X + 3) (zi D.1) = some (υ, zi 0) ∧ PBad X u τ υ e := by
  have hl := plen h
  obtain ⟨b1, b2, b3, -⟩ := pT_in hp
  have hk := ppk_le (tx := tx) (p := pF tx p)
  have bad1 : ∃ υ, jX5_readName_29 τ (X + 3) = some (υ, zi 0) ∧ PBad X u τ υ (1, pF tx p) := by
    obtain ⟨υ, r1, r2⟩ := pl_refuse (c := 1) h ht.2.1
    refine ⟨υ, ?_, r2⟩
    unfold jX5_readName_29
    rw [pck5 h, show fX5_refuse τ (X + 3) (zi 1) = some (υ, zi 0) from r1]
    exact zrZ0
  have hnamed := pn_named (nm := D.2.2.2.2.1) h.2.2.2.1 h.2.2.1.2.2 h.2.2.2.2.2.1.2.2 hD.1.2 hD.1.1 hD.2.2.1 b1 b2 hl
  have eft : zi ((pT tx p : Int) - pF tx p) = zi ((pT tx p - pF tx p : Nat) : Int) := by
    congr 1
    omega
  unfold fX5_readName pna
  simp only [pg_i h, ht.1, ht.2.1, ht.2.2, Option.bind_some, zi_sub, pl_quoted h ht hp, pck5 h, eft]
  by_cases k1 : pK tx p = 1
  · rw [if_pos (show zi (pK tx p) = zi 1 by rw [k1]; rfl)]
    by_cases k8 : pT tx p - pF tx p ≤ 8
    · rw [if_neg (show ¬ zi 8 < zi ((pT tx p - pF tx p : Nat) : Int) by rw [zi_lt (by omega) (by omega) (by omega) (by omega)]; omega)]
      cases hW : pW tx p with
      | none =>
        rw [if_pos ⟨k1, k8, rfl⟩]
        dsimp only
        simp only [pg_s h, pg_t h, pg_b h, pg_i h, ht.2.1, ht.2.2, Option.bind_some, zi_sub, eft, hnamed, pck7 h]
        have hlt := pnm_lt (n := D.1) (nm := D.2.2.2.2.1) (l := ptx tx (pF tx p) (pT tx p))
        by_cases hx : ∃ s, s < D.1 ∧ D.2.2.2.2.1 s = ptx tx (pF tx p) (pT tx p)
        · rw [if_neg (show ¬ zi (pnm D.1 D.2.2.2.2.1 (ptx tx (pF tx p) (pT tx p))) = zi (-1) by rw [zi_eq (by omega) (by omega) (by omega) (by omega), pnm_neg]; exact fun q => q hx), if_pos hx]
          refine ⟨fun p2 q => (by cases q), fun e q => ?_⟩
          cases q
          obtain ⟨υ, r1, r2⟩ := pl_refuse (c := 3) h ht.2.1
          refine ⟨υ, ?_, r2⟩
          rw [pck5 h, show fX5_refuse τ (X + 3) (zi 3) = some (υ, zi 0) from r1]
          exact zrZ0
        · rw [if_pos (show zi (pnm D.1 D.2.2.2.2.1 (ptx tx (pF tx p) (pT tx p))) = zi (-1) by rw [pnm_neg.2 hx]), if_neg hx]
          refine ⟨fun p2 q => ?_, fun e q => (by cases q)⟩
          cases q
          obtain ⟨s, e1, e2, e3, e4, e5⟩ := pn_set h hD h4 b1 b2 k8
          have h2 : PSh s X u tx := PSh_fr h e2
          obtain ⟨υ, w1, w2, w3⟩ := pl_adv (p0 := pT tx p) h2 (by rw [e3]; exact ht.2.2) b2
          refine ⟨υ, ?_, pfr_trans e2 (pfT_pfr w2), fun j hj => by rw [w2.2.2.2 j (by omega) (by omega) (by omega), e3], w3, PD_P h.2.2.2.2.1 e4 (pfT_P w2), NM_P h.2.2.2.2.1 e5 (pfT_P w2)⟩
          rw [e1, Option.bind_some, pck5 h2, w1]
          exact zrZ1
      | some a =>
        rw [if_neg (show ¬ (pK tx p = 1 ∧ pT tx p - pF tx p ≤ 8 ∧ some a = none) from fun q => by cases q.2.2)]
        refine ⟨fun p2 q => (by cases q), fun e q => ?_⟩
        cases q
        exact bad1
    · rw [if_pos ((zi_lt (by omega) (by omega) (by omega) (by omega)).2 (show (8 : Int) < ((pT tx p - pF tx p : Nat) : Int) by omega)), if_neg (show ¬ (pK tx p = 1 ∧ pT tx p - pF tx p ≤ 8 ∧ pW tx p = none) from fun q => k8 q.2.1)]
      refine ⟨fun p2 q => (by cases q), fun e q => ?_⟩
      cases q
      exact bad1
  · rw [if_neg (show ¬ zi (pK tx p) = zi 1 by rw [zi_eq (by unfold pK; omega) (by unfold pK; omega) (by omega) (by omega)]; omega), if_neg (show ¬ (pK tx p = 1 ∧ pT tx p - pF tx p ≤ 8 ∧ pW tx p = none) from fun q => k1 q.1)]
    refine ⟨fun p2 q => (by cases q), fun e q => ?_⟩
    cases q
    exact bad1
end PS
