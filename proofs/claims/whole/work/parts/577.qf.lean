/-! The reference's parser: settings, statements, the whole text. -/
section QF
variable {σ τ υ : zS} {m p k w K : Nat} {tx : List Int32} {D : pD} {e : Nat × Nat}
theorem pmk_in (h : pmk D K) (hw : w < 5) (hn : D.2.2.2.2.2 w = none) (v : Nat) : pmk (D.1, D.2.1, D.2.2.1, D.2.2.2.1, D.2.2.2.2.1, qu D.2.2.2.2.2 w (some v)) (K + 2 ^ w) := by
  obtain ⟨h1, h2⟩ := h
  obtain ⟨-, b⟩ := pbit ⟨K, h1⟩ ⟨w, hw⟩
  have hb : ¬ K / 2 ^ w % 2 = 1 := fun q => (h2 w hw).1 q hn
  obtain ⟨b1, b2, b3⟩ := b hb
  refine ⟨b2, fun i hi => ?_⟩
  have := b3 ⟨i, hi⟩
  dsimp only at this ⊢
  rw [this]
  by_cases e : i = w
  · subst e
    rw [qu_at]
    exact ⟨fun _ q => (by cases q), fun _ => Or.inl rfl⟩
  · rw [qu_ne e]
    rw [← h2 i hi]
    refine ⟨fun q => ?_, Or.inr⟩
    rcases q with q | q
    · exact absurd (Fin.mk.inj q) e
    · exact q
theorem rb_57 {a y : Int32} (h : RSh σ m tx) (g : RB m σ e τ) : jX10_readsOnce_57 τ m a y = some τ := by
  unfold jX10_readsOnce_57
  rw [rb_fine h g, rck9 (RSh_r h g.1), Option.bind_some]
  exact if_pos rfl
theorem pse0_at {v : Nat} (h4 : 4 ≤ w) : pse0 (D.1, D.2.1, D.2.2.1, D.2.2.2.1, D.2.2.2.2.1, qu D.2.2.2.2.2 (w - 4) (some v)) w = v := by
  unfold pse0
  dsimp only
  rw [qu_at]
theorem pse0_ne {v i : Nat} (h : i - 4 ≠ w - 4) : pse0 (D.1, D.2.1, D.2.2.1, D.2.2.2.1, D.2.2.2.2.1, qu D.2.2.2.2.2 (w - 4) (some v)) i = pse0 D i := by
  unfold pse0
  dsimp only
  rw [qu_ne h]
/-- a setting is laid down -/
theorem rg_57 {v : Nat} (h : RSh σ m tx) (g : RG m tx σ D K p τ) (hw : w < 9) (h4 : 4 ≤ w) (h8 : w = 8 → v = 1) : ∃ υ, jX10_readsOnce_57 τ m (zi ((w - 4 : Nat) : Int)) (zi v) = some υ ∧ RG m tx σ (D.1, D.2.1, D.2.2.1, D.2.2.2.1, D.2.2.2.2.1, qu D.2.2.2.2.2 (w - 4) (some v)) K p υ := by
  obtain ⟨g1, g2, g3, ⟨⟨d1, d2⟩, d3, d4, d5, d6⟩, g5⟩ := id g
  have hs := RSh_r h g1
  have row : ∀ c : Nat, c < 5 → (∀ k, pfi (D.1, D.2.1, D.2.2.1, D.2.2.2.1, D.2.2.2.2.1, qu D.2.2.2.2.2 (w - 4) (some v)) k = if k = c then (v : Int) else pfi D k) → w ≠ 5 → RG m tx σ (D.1, D.2.1, D.2.2.1, D.2.2.2.1, D.2.2.2.2.1, qu D.2.2.2.2.2 (w - 4) (some v)) K p (zuI τ (m + 5) c (zi v)) := by
    intro c hc hp h5
    have q : ∀ i, (zuI τ (m + 5) c (zi v)).2.1 m i = τ.2.1 m i := fun i => by rw [zuI_row, if_neg (by omega)]
    refine ⟨rfr_trans g1 (rfr_R (by omega)), by rw [q, q]; exact g2, by unfold RT; rw [q, q, q, q, q]; exact g3, ⟨⟨d1, by rw [q]; exact d2⟩, by rw [q, pse0_ne (by omega)]; exact d3, by rw [q]; exact d4, fun k hk => ?_, fun s hs4 => ?_⟩, g5⟩
    · rw [zuI_row, hp k]
      by_cases e : k = c
      · rw [if_pos ⟨rfl, e⟩, if_pos e]
      · rw [if_neg (fun q => e q.2), if_neg e]
        exact d5 k hk
    · rw [zuI_row, if_neg (by omega), zuI_row, if_neg (by omega)]
      exact d6 s hs4
  have zr : ∀ c : Nat, c < 5 → zsI τ (m + 5) (zi c) (zi v) = some (zuI τ (m + 5) c (zi v)) := fun c hc => zsI_of c (rsk_5 hs.1) rfl (by omega) (by decide)
  have n4 : ∀ c : Nat, c < 5 → ((zi ((w - 4 : Nat) : Int) = zi c) = (w - 4 = c)) := fun c hc => propext (by rw [zi_eq (by omega) (by omega) (by omega) (by omega)]; omega)
  unfold jX10_readsOnce_57
  rw [rg_fine h g, rck9 hs, Option.bind_some]
  dsimp only
  rw [if_neg z10, rsh_7 hs.1]
  have n40 : (zi ((w - 4 : Nat) : Int) = zi 0) = (w - 4 = 0) := n4 0 (by omega)
  have n41 : (zi ((w - 4 : Nat) : Int) = zi 1) = (w - 4 = 1) := n4 1 (by omega)
  have n42 : (zi ((w - 4 : Nat) : Int) = zi 2) = (w - 4 = 2) := n4 2 (by omega)
  have n43 : (zi ((w - 4 : Nat) : Int) = zi 3) = (w - 4 = 3) := n4 3 (by omega)
  have z1 : zsI τ (m + 5) (zi 1) (zi v) = some (zuI τ (m + 5) 1 (zi v)) := zr 1 (by omega)
  have z2 : zsI τ (m + 5) (zi 2) (zi v) = some (zuI τ (m + 5) 2 (zi v)) := zr 2 (by omega)
  have z3 : zsI τ (m + 5) (zi 3) (zi v) = some (zuI τ (m + 5) 3 (zi v)) := zr 3 (by omega)
  have z4 : zsI τ (m + 5) (zi 4) (zi v) = some (zuI τ (m + 5) 4 (zi v)) := zr 4 (by omega)
  simp only [n40, n41, n42, n43, Option.bind_some, z1, z2, z3, z4, rp_i hs.1]
  have : w = 4 ∨ w = 5 ∨ w = 6 ∨ w = 7 ∨ w = 8 := by omega
  rcases this with rfl | rfl | rfl | rfl | rfl
  · rw [if_pos (by omega)]
    refine ⟨_, rfl, row 1 (by omega) (fun k => ?_) (by omega)⟩
    unfold pfi
    rw [pse0_at (w := 4) (by omega), pse0_ne (w := 4) (i := 6) (by omega), pse0_ne (w := 4) (i := 7) (by omega), pse0_ne (w := 4) (i := 8) (by omega)]
    by_cases e : k = 1
    · rw [if_pos e, if_pos e]
    · rw [if_neg e, if_neg e, if_neg e]
  · rw [if_neg (by omega), if_pos (by omega)]
    have q : ∀ i, i ≠ 25 → (zuI τ m 25 (zi v)).2.1 m i = τ.2.1 m i := fun i hi => by rw [zuI_rd, if_neg hi]
    refine ⟨_, rfl, rfr_trans g1 (rfr_I (by omega) (by omega)), by rw [q _ (by omega), q _ (by omega)]; exact g2, by unfold RT; rw [q _ (by omega), q _ (by omega), q _ (by omega), q _ (by omega), q _ (by omega)]; exact g3, ⟨⟨d1, by rw [q _ (by omega)]; exact d2⟩, by rw [zuI_rd, if_pos rfl, pse0_at (by omega)], by rw [q _ (by omega)]; exact d4, fun k hk => ?_, fun s hs4 => ?_⟩, g5⟩
    · rw [zuI_row, if_neg (by omega), d5 k hk]
      congr 1
    · rw [zuI_row, if_neg (by omega), zuI_row, if_neg (by omega)]
      exact d6 s hs4
  · rw [if_neg (by omega), if_neg (by omega), if_pos (by omega)]
    refine ⟨_, rfl, row 2 (by omega) (fun k => ?_) (by omega)⟩
    unfold pfi
    rw [pse0_at (w := 6) (by omega), pse0_ne (w := 6) (i := 4) (by omega), pse0_ne (w := 6) (i := 7) (by omega), pse0_ne (w := 6) (i := 8) (by omega)]
    by_cases e : k = 2
    · subst e
      rfl
    · rw [if_neg e, if_neg e, if_neg e]
  · rw [if_neg (by omega), if_neg (by omega), if_neg (by omega), if_pos (by omega)]
    refine ⟨_, rfl, row 3 (by omega) (fun k => ?_) (by omega)⟩
    unfold pfi
    rw [pse0_at (w := 7) (by omega), pse0_ne (w := 7) (i := 4) (by omega), pse0_ne (w := 7) (i := 6) (by omega), pse0_ne (w := 7) (i := 8) (by omega)]
    by_cases e : k = 3
    · subst e
      rfl
    · rw [if_neg e, if_neg e, if_neg e]
  · rw [if_neg (by omega), if_neg (by omega), if_neg (by omega), if_neg (by omega)]
    refine ⟨_, rfl, row 4 (by omega) (fun k => ?_) (by omega)⟩
    have := h8 rfl
    subst this
    unfold pfi
    rw [pse0_at (w := 8) (by omega), pse0_ne (w := 8) (i := 4) (by omega), pse0_ne (w := 8) (i := 6) (by omega), pse0_ne (w := 8) (i := 7) (by omega)]
    by_cases e : k = 4
    · subst e
      rfl
    · rw [if_neg e, if_neg e, if_neg e]
theorem RB_26 {v : Int32} (g : RB m σ e τ) : RB m σ e (zuI τ m 26 v) := ⟨rfr_trans g.1 (rfr_I (by omega) (by omega)), by rw [zuI_rd, if_neg (by omega), zuI_rd, if_neg (by omega)]; exact g.2.1, g.2.2⟩
theorem rg_once (h : RSh σ m tx) (g : RG m tx σ D K p τ) (hK : pmk D K) (hw : w < 5) : ∃ υ, fX10_once τ m (zi (w : Nat)) = some υ ∧ (if D.2.2.2.2.2 w = none then RG m tx σ D (K + 2 ^ w) (pT tx p) υ else RB m σ (3, pF tx p) υ) := by
  have hs := RSh_r h g.1
  obtain ⟨k1, k2⟩ := hK
  obtain ⟨b0, b⟩ := pbit ⟨K, k1⟩ ⟨w, hw⟩
  dsimp only at b0 b
  have hk : τ.2.1 m 26 = zi K := g.2.2.2.1.2.2.1
  unfold fX10_once jX10_once_17
  rw [rg_i hs.1, Option.bind_some, hk]
  by_cases hn : D.2.2.2.2.2 w = none
  · have hb : ¬ K / 2 ^ w % 2 = 1 := fun q => (k2 w hw).1 q hn
    simp only [if_pos hn]
    rw [if_pos (b0.2 hb), rck9 hs, rg_needs1 h g, Option.bind_some, rg_i hs.1, Option.bind_some, hk, (b hb).1, rp_i hs.1, Option.bind_some]
    have g1 : RG m tx σ D (K + 2 ^ w) p (zuI τ m 26 (zi ((K + 2 ^ w : Nat) : Int))) := by
      obtain ⟨y1, y2, y3, ⟨⟨y4, y4b⟩, y5, y6, y7, y8⟩, y9⟩ := g
      have q : ∀ i, i ≠ 26 → (zuI τ m 26 (zi ((K + 2 ^ w : Nat) : Int))).2.1 m i = τ.2.1 m i := fun i hi => by rw [zuI_rd, if_neg hi]
      refine ⟨rfr_trans y1 (rfr_I (by omega) (by omega)), by rw [q _ (by omega), q _ (by omega)]; exact y2, by unfold RT; rw [q _ (by omega), q _ (by omega), q _ (by omega), q _ (by omega), q _ (by omega)]; exact y3, ⟨⟨y4, by rw [q _ (by omega)]; exact y4b⟩, by rw [q _ (by omega)]; exact y5, by rw [zuI_rd, if_pos rfl], fun k hk => ?_, fun s hs4 => ?_⟩, y9⟩
      · rw [zuI_row, if_neg (by omega)]
        exact y7 k hk
      · rw [zuI_row, if_neg (by omega), zuI_row, if_neg (by omega)]
        exact y8 s hs4
    obtain ⟨υ, e1, e2, -⟩ := rg_goOn h g1
    rw [rck9 (RSh_r h g1.1), e1]
    exact ⟨υ, rfl, e2⟩
  · have hb : K / 2 ^ w % 2 = 1 := (k2 w hw).2 hn
    simp only [if_neg hn]
    rw [if_neg (fun q => b0.1 q hb), rck9 hs]
    obtain ⟨s1, e1, g1⟩ := rg_needs0 (c := 3) h g (by omega) (by omega)
    have h1 := RSh_r h g1.1
    rw [show fX10_needs τ m (zi 0) (zi 3) = some s1 from e1, Option.bind_some, rg_i h1.1, Option.bind_some, rp_i h1.1, Option.bind_some]
    generalize s1.2.1 m 26 ||| ((zi 1) <<< ((zi (w : Nat)) &&& 31)) = y
    have g2 := RB_26 (v := y) g1
    rw [rck9 (RSh_r h g2.1), rb_goOn h g2]
    exact ⟨_, rfl, g2⟩
theorem rg_set (h : RSh σ m tx) (g : RG m tx σ D K p τ) (hK : pmk D K) (hw : w < 9) (h4 : 4 ≤ w) : ∃ υ, fX10_readsOnce τ m (zi ((w - 4 : Nat) : Int)) = some υ ∧ RO m tx σ (K + 2 ^ (w - 4)) (pse tx D w p) υ := by
  have hs := RSh_r h g.1
  obtain ⟨s1, e1, g1⟩ := rg_once (w := w - 4) h g hK (by omega)
  have n4 : ∀ c : Nat, c < 5 → ((zi ((w - 4 : Nat) : Int) = zi c) = (w - 4 = c)) := fun c hc => propext (by rw [zi_eq (by omega) (by omega) (by omega) (by omega)]; omega)
  have n40 : (zi ((w - 4 : Nat) : Int) = zi 0) = (w - 4 = 0) := n4 0 (by omega)
  have n41 : (zi ((w - 4 : Nat) : Int) = zi 1) = (w - 4 = 1) := n4 1 (by omega)
  have n42 : (zi ((w - 4 : Nat) : Int) = zi 2) = (w - 4 = 2) := n4 2 (by omega)
  have n43 : (zi ((w - 4 : Nat) : Int) = zi 3) = (w - 4 = 3) := n4 3 (by omega)
  have n44 : (zi ((w - 4 : Nat) : Int) = zi 4) = (w - 4 = 4) := n4 4 (by omega)
  unfold fX10_readsOnce pse
  rw [rck9 hs, e1, Option.bind_some]
  by_cases hn : D.2.2.2.2.2 (w - 4) = none
  · rw [if_pos hn] at g1 ⊢
    have h1 := RSh_r h g1.1
    simp only [n43, n44]
    by_cases e8 : w = 8
    · subst e8
      rw [if_pos (by omega), if_pos rfl]
      obtain ⟨υ, e2, g2⟩ := rg_57 (w := 8) (v := 1) h g1 (by omega) (by omega) (fun _ => rfl)
      exact ⟨υ, e2, g2⟩
    · rw [if_neg (by omega), if_neg e8]
      obtain ⟨s2, v, e2, g2⟩ := rg_number h g1 hw
      have fin : ∃ υ, (zck 9 s1 m (fX10_number s1 m (zi (plo w)) (zi (pup w)))).bind (fun c2 => jX10_readsOnce_57 c2.1 m (zi ((w - 4 : Nat) : Int)) c2.2) = some υ ∧ RO m tx σ (K + 2 ^ (w - 4)) (pb (pnb tx w (pT tx p)) fun a => .inr ((D.1, D.2.1, D.2.2.1, D.2.2.2.1, D.2.2.2.2.1, qu D.2.2.2.2.2 (w - 4) (some a.1)), a.2)) υ := by
        rw [rck9 h1, e2, Option.bind_some]
        dsimp only
        cases r2 : pnb tx w (pT tx p) with
        | inl x =>
          rw [r2] at g2
          exact ⟨s2, rb_57 h g2, g2⟩
        | inr a =>
          rw [r2] at g2
          obtain ⟨g2, -, rfl⟩ := g2
          exact rg_57 h g2 hw h4 (fun q => absurd q e8)
      unfold jX10_readsOnce_25 jX10_readsOnce_54
      simp only [n40, n41, n42]
      have : w = 4 ∨ w = 5 ∨ w = 6 ∨ w = 7 := by omega
      rcases this with rfl | rfl | rfl | rfl
      · rw [if_neg (by omega), if_pos (by omega)]
        exact fin
      · rw [if_neg (by omega), if_neg (by omega), if_pos (by omega)]
        exact fin
      · rw [if_neg (by omega), if_neg (by omega), if_neg (by omega), if_pos (by omega)]
        exact fin
      · rw [if_pos (by omega), if_neg (by omega), if_neg (by omega), if_neg (by omega)]
        exact fin
  · rw [if_neg hn] at g1 ⊢
    have h1 := RSh_r h g1.1
    have j54 : ∀ a b, jX10_readsOnce_54 s1 m (zi ((w - 4 : Nat) : Int)) a b m = some s1 := fun a b => by
      obtain ⟨v, ev⟩ := rb_number (a := b) (b := a) h g1
      unfold jX10_readsOnce_54
      rw [rck9 h1, ev, Option.bind_some]
      exact rb_57 h g1
    unfold jX10_readsOnce_25
    simp only [rb_57 h g1, j54, ite_self]
    exact ⟨s1, rfl, g1⟩
end QF
