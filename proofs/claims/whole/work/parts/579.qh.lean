/-! The reference's parser: the draft cleared, the draft taken. -/
section QH
variable {σ τ υ : zS} {m p k w K : Nat} {tx : List Int32} {D : pD} {g : Nat → Int32}
theorem rsh_rp {a : Nat} (h : rsh σ m) : rsh (rp σ a g) m := h
theorem cl_17 (h : rsh σ m) : zloop (sX10_clears_17 m) zfuel (σ, zi 0) = some (rp σ (m + 5) (fun j => if j < 33894 then zi 0 else σ.2.1 (m + 5) j)) := by
  obtain ⟨o, e1, rfl⟩ := zloop_run (step := sX10_clears_17 m) (fuel := zfuel) 33894 (fun i z => z = (rp σ (m + 5) (fun j => if j < i then zi 0 else σ.2.1 (m + 5) j), zi (i : Nat))) (fun o => o = rp σ (m + 5) (fun j => if j < 33894 then zi 0 else σ.2.1 (m + 5) j)) (fun i z hi hp => by
    subst hp
    refine Or.inl ⟨(rp σ (m + 5) (fun j => if j < i + 1 then zi 0 else σ.2.1 (m + 5) j), zi ((i + 1 : Nat) : Int)), ?_, rfl⟩
    unfold sX10_clears_17 sX10_clears_17b
    dsimp only
    rw [if_neg (show ¬ zi 33894 ≤ zi (i : Nat) by rw [zi_le (by omega) (by omega) (by omega) (by omega)]; omega), rsh_7 (rsh_rp h), Option.bind_some, zsI_of i (rsk_5 (rsh_rp h)) rfl hi (by omega), Option.bind_some, rp_upd, zi_add]
    have : qu (fun j => if j < i then zi 0 else σ.2.1 (m + 5) j) i (zi 0) = fun j => if j < i + 1 then zi 0 else σ.2.1 (m + 5) j := by
      funext j
      by_cases e : j = i
      · subst e
        rw [qu_at, if_pos (by omega)]
      · rw [qu_ne e]
        by_cases e2 : j < i
        · rw [if_pos e2, if_pos (by omega)]
        · rw [if_neg e2, if_neg (by omega)]
    rw [this]
    rfl) (fun z hp => by
    subst hp
    refine ⟨_, ?_, rfl⟩
    unfold sX10_clears_17 sX10_clears_17b
    dsimp only
    rw [if_pos (by decide)]) (zfuel_lt (by omega)) (s := (σ, zi 0)) (by
    have : rp σ (m + 5) (fun j => if j < 0 then zi 0 else σ.2.1 (m + 5) j) = σ := by
      rw [show (fun j => if j < 0 then zi 0 else σ.2.1 (m + 5) j) = σ.2.1 (m + 5) from funext fun j => if_neg (by omega)]
      exact rp_self
    rw [this]
    rfl)
  exact e1
theorem cl_52 (h : rsh σ m) : zloop (sX10_clears_52 m) zfuel (σ, zi 0) = some (rp σ (m + 5) (fun j => if 37 ≤ j ∧ j < 41 then zi (-1) else σ.2.1 (m + 5) j)) := by
  obtain ⟨o, e1, rfl⟩ := zloop_run (step := sX10_clears_52 m) (fuel := zfuel) 4 (fun i z => z = (rp σ (m + 5) (fun j => if 37 ≤ j ∧ j < 37 + i then zi (-1) else σ.2.1 (m + 5) j), zi (i : Nat))) (fun o => o = rp σ (m + 5) (fun j => if 37 ≤ j ∧ j < 41 then zi (-1) else σ.2.1 (m + 5) j)) (fun i z hi hp => by
    subst hp
    refine Or.inl ⟨(rp σ (m + 5) (fun j => if 37 ≤ j ∧ j < 37 + (i + 1) then zi (-1) else σ.2.1 (m + 5) j), zi ((i + 1 : Nat) : Int)), ?_, rfl⟩
    unfold sX10_clears_52 sX10_clears_52b
    dsimp only
    rw [if_neg (show ¬ zi 4 ≤ zi (i : Nat) by rw [zi_le (by omega) (by omega) (by omega) (by omega)]; omega), rsh_7 (rsh_rp h), Option.bind_some, zi_add, zsI_of (37 + i) (rsk_5 (rsh_rp h)) (by omega) (by omega) (by omega), Option.bind_some, rp_upd, zi_add]
    have : qu (fun j => if 37 ≤ j ∧ j < 37 + i then zi (-1) else σ.2.1 (m + 5) j) (37 + i) (zi (-1)) = fun j => if 37 ≤ j ∧ j < 37 + (i + 1) then zi (-1) else σ.2.1 (m + 5) j := by
      funext j
      by_cases e : j = 37 + i
      · subst e
        rw [qu_at, if_pos (by omega)]
      · rw [qu_ne e]
        by_cases e2 : 37 ≤ j ∧ j < 37 + i
        · rw [if_pos e2, if_pos (by omega)]
        · rw [if_neg e2, if_neg (by omega)]
    rw [this]
    rfl) (fun z hp => by
    subst hp
    refine ⟨_, ?_, rfl⟩
    unfold sX10_clears_52 sX10_clears_52b
    dsimp only
    rw [if_pos (by decide)]) (zfuel_lt (by omega)) (s := (σ, zi 0)) (by
    have : rp σ (m + 5) (fun j => if 37 ≤ j ∧ j < 37 + 0 then zi (-1) else σ.2.1 (m + 5) j) = σ := by
      rw [show (fun j => if 37 ≤ j ∧ j < 37 + 0 then zi (-1) else σ.2.1 (m + 5) j) = σ.2.1 (m + 5) from funext fun j => if_neg (by omega)]
      exact rp_self
    rw [this]
    rfl)
  exact e1
theorem cl_75 (h : rsh σ m) : zloop (sX10_clears_75 m) zfuel (σ, zi 0) = some (rp σ (m + 5) (fun j => if 41 ≤ j ∧ j < 43 then zi (-1) else σ.2.1 (m + 5) j)) := by
  obtain ⟨o, e1, rfl⟩ := zloop_run (step := sX10_clears_75 m) (fuel := zfuel) 2 (fun i z => z = (rp σ (m + 5) (fun j => if 41 ≤ j ∧ j < 41 + i then zi (-1) else σ.2.1 (m + 5) j), zi (i : Nat))) (fun o => o = rp σ (m + 5) (fun j => if 41 ≤ j ∧ j < 43 then zi (-1) else σ.2.1 (m + 5) j)) (fun i z hi hp => by
    subst hp
    refine Or.inl ⟨(rp σ (m + 5) (fun j => if 41 ≤ j ∧ j < 41 + (i + 1) then zi (-1) else σ.2.1 (m + 5) j), zi ((i + 1 : Nat) : Int)), ?_, rfl⟩
    unfold sX10_clears_75 sX10_clears_75b
    dsimp only
    rw [if_neg (show ¬ zi 2 ≤ zi (i : Nat) by rw [zi_le (by omega) (by omega) (by omega) (by omega)]; omega), rsh_7 (rsh_rp h), Option.bind_some, zi_add, zsI_of (41 + i) (rsk_5 (rsh_rp h)) (by omega) (by omega) (by omega), Option.bind_some, rp_upd, zi_add]
    have : qu (fun j => if 41 ≤ j ∧ j < 41 + i then zi (-1) else σ.2.1 (m + 5) j) (41 + i) (zi (-1)) = fun j => if 41 ≤ j ∧ j < 41 + (i + 1) then zi (-1) else σ.2.1 (m + 5) j := by
      funext j
      by_cases e : j = 41 + i
      · subst e
        rw [qu_at, if_pos (by omega)]
      · rw [qu_ne e]
        by_cases e2 : 41 ≤ j ∧ j < 41 + i
        · rw [if_pos e2, if_pos (by omega)]
        · rw [if_neg e2, if_neg (by omega)]
    rw [this]
    rfl) (fun z hp => by
    subst hp
    refine ⟨_, ?_, rfl⟩
    unfold sX10_clears_75 sX10_clears_75b
    dsimp only
    rw [if_pos (by decide)]) (zfuel_lt (by omega)) (s := (σ, zi 0)) (by
    have : rp σ (m + 5) (fun j => if 41 ≤ j ∧ j < 41 + 0 then zi (-1) else σ.2.1 (m + 5) j) = σ := by
      rw [show (fun j => if 41 ≤ j ∧ j < 41 + 0 then zi (-1) else σ.2.1 (m + 5) j) = σ.2.1 (m + 5) from funext fun j => if_neg (by omega)]
      exact rp_self
    rw [this]
    rfl)
  exact e1
/-- the draft is cleared -/
theorem r_clears (h : rsh σ m) : ∃ υ, fX10_clears σ m = some υ ∧ (υ.1 = σ.1 ∧ υ.2.2 = σ.2.2) ∧ (∀ a, a ≠ m → a ≠ m + 5 → υ.2.1 a = σ.2.1 a) ∧ (∀ j, (j < 24 ∨ 26 < j) → υ.2.1 m j = σ.2.1 m j) ∧ RD υ m pD0 0 := by
  obtain ⟨s3, h3⟩ : ∃ s3, s3 = zuI (zuI (zuI σ m 24 (zi 0)) m 25 (zi 1)) m 26 (zi 0) := ⟨_, rfl⟩
  have k3 : rsh s3 m := by rw [h3]; exact rsh_uI (rsh_uI (rsh_uI h))
  have m3 : s3.2.1 (m + 5) = σ.2.1 (m + 5) := by
    rw [h3]
    exact (show _ = _ from zu_off _ _ _ (by omega)).trans ((show _ = _ from zu_off _ _ _ (by omega)).trans (zu_off _ _ _ (by omega)))
  have i3 : ∀ a, a ≠ m → s3.2.1 a = σ.2.1 a := fun a ha => by
    rw [h3]
    exact (show _ = _ from zu_off _ _ _ ha).trans ((show _ = _ from zu_off _ _ _ ha).trans (zu_off _ _ _ ha))
  obtain ⟨G, hG⟩ : ∃ G : Nat → Int32, G = fun j => if j < 33894 then zi 0 else s3.2.1 (m + 5) j := ⟨_, rfl⟩
  have e17 := cl_17 k3
  rw [← hG] at e17
  obtain ⟨s4, h4⟩ : ∃ s4, s4 = rp s3 (m + 5) (qu (qu G 1 (zi 1)) 2 (zi 4)) := ⟨_, rfl⟩
  have k4 : rsh s4 m := by rw [h4]; exact k3
  have e52 := cl_52 k4
  obtain ⟨s5, h5⟩ : ∃ s5, s5 = rp s4 (m + 5) (fun j => if 37 ≤ j ∧ j < 41 then zi (-1) else s4.2.1 (m + 5) j) := ⟨_, rfl⟩
  rw [← h5] at e52
  have k5 : rsh s5 m := by rw [h5]; exact k4
  have e75 := cl_75 k5
  have r5 : s5.2.1 (m + 5) = fun j => if 37 ≤ j ∧ j < 41 then zi (-1) else qu (qu G 1 (zi 1)) 2 (zi 4) j := by
    rw [h5, rp_at, h4, rp_at]
  have rm : ∀ g, (rp s5 (m + 5) g).2.1 m = s3.2.1 m := fun g => by rw [rp_ne (by omega), h5, rp_ne (by omega), h4, rp_ne (by omega)]
  obtain ⟨s6, h6⟩ : ∃ s6, s6 = rp s5 (m + 5) (fun j => if 41 ≤ j ∧ j < 43 then zi (-1) else s5.2.1 (m + 5) j) := ⟨_, rfl⟩
  have rm6 : s6.2.1 m = s3.2.1 m := by rw [h6]; exact rm _
  refine ⟨s6, ?_, ⟨?_, ?_⟩, fun a a1 a2 => ?_, fun j hj => ?_, ⟨by decide, ?_⟩, ?_, ?_, fun k hk => ?_, fun s hs => absurd (show s < 0 from hs) (by omega)⟩
  · unfold fX10_clears
    rw [rp_i h, Option.bind_some, rp_i (rsh_uI h), Option.bind_some, rp_i (rsh_uI (rsh_uI h)), Option.bind_some, ← h3, e17, Option.bind_some, rsh_7 (rsh_rp k3), Option.bind_some, show zsI (rp s3 (m + 5) G) (m + 5) (zi 1) (zi 1) = some (rp s3 (m + 5) (qu G 1 (zi 1))) from (zsI_of 1 (rsk_5 (rsh_rp k3)) rfl (by omega) (by omega)).trans (by rw [rp_upd]), Option.bind_some, rsh_7 (rsh_rp k3), Option.bind_some, show zsI (rp s3 (m + 5) (qu G 1 (zi 1))) (m + 5) (zi 2) (zi 4) = some s4 from (zsI_of 2 (rsk_5 (rsh_rp k3)) rfl (by omega) (by omega)).trans (by rw [rp_upd, h4]), Option.bind_some, e52, Option.bind_some, e75, h6]
    rfl
  · rw [h6, h5, h4, h3]
    rfl
  · rw [h6, h5, h4, h3]
    rfl
  · rw [h6, rp_ne a2, h5, rp_ne a2, h4, rp_ne a2, i3 a a1]
  · rw [rm6, h3, zuI_rd, if_neg (by omega), zuI_rd, if_neg (by omega), zuI_rd, if_neg (by omega)]
  · rw [rm6, h3, zuI_rd, if_neg (by omega), zuI_rd, if_neg (by omega), zuI_rd, if_pos rfl]
    rfl
  · rw [rm6, h3, zuI_rd, if_neg (by omega), zuI_rd, if_pos rfl]
    rfl
  · rw [rm6, h3, zuI_rd, if_pos rfl]
    rfl
  · rw [h6, rp_at, r5]
    dsimp only
    unfold pfi
    have p4 : pse0 pD0 4 = 1 := rfl
    have p6 : pse0 pD0 6 = 4 := rfl
    have p7 : pse0 pD0 7 = 0 := rfl
    have p8 : pse0 pD0 8 = 0 := rfl
    rw [p4, p6, p7, p8]
    by_cases c1 : k = 1
    · subst c1
      rw [if_neg (by omega), if_neg (by omega), qu_ne (by omega), qu_at]
      rfl
    · rw [if_neg c1]
      by_cases c2 : k = 2
      · subst c2
        rw [if_neg (by omega), if_neg (by omega), qu_at]
        rfl
      · rw [if_neg c2]
        have hq : qu (qu G 1 (zi 1)) 2 (zi 4) k = zi 0 := by
          rw [qu_ne c2, qu_ne c1, hG]
          exact if_pos hk
        rw [hq]
        by_cases c3 : k = 3
        · subst c3
          rfl
        · rw [if_neg c3]
          by_cases c4 : k = 4
          · subst c4
            rfl
          · rw [if_neg c4]
            by_cases c9 : 9 ≤ k ∧ k < 13
            · rw [if_pos c9, if_neg (by omega), if_neg (by omega)]
              rfl
            · rw [if_neg c9]
              by_cases c5 : 37 ≤ k ∧ k < 43
              · rw [if_pos c5]
                by_cases c6 : 41 ≤ k ∧ k < 43
                · rw [if_pos c6]
                · rw [if_neg c6, if_pos (by omega)]
              · rw [if_neg c5, if_neg (by omega), if_neg (by omega)]
theorem rsh_3 (h : rsh τ m) : zgR 9 3 τ m = some (m + 1) := (if_pos h.1).trans h.2.1.1
theorem rsh_4 (h : rsh τ m) : zgR 9 4 τ m = some (m + 2) := (if_pos h.1).trans h.2.1.2.1
theorem rsh_5 (h : rsh τ m) : zgR 9 5 τ m = some (m + 3) := (if_pos h.1).trans h.2.1.2.2.1
theorem rsh_6 (h : rsh τ m) : zgR 9 6 τ m = some (m + 4) := (if_pos h.1).trans h.2.1.2.2.2.1
theorem rsk_1 (h : rsh τ m) : τ.1 (m + 1) = (1, 4) := h.2.2.1
theorem rsk_2 (h : rsh τ m) : τ.1 (m + 2) = (1, 4) := h.2.2.2.1
theorem rsk_3 (h : rsh τ m) : τ.1 (m + 3) = (3, 4) := h.2.2.2.2.1
theorem rsk_4 (h : rsh τ m) : τ.1 (m + 4) = (1, 33894) := h.2.2.2.2.2.1
theorem td_18 (h : rsh σ m) : ∃ o, zloop (sX10_takesDraft_18 m) zfuel (σ, zi 0) = some o ∧ (o.1 = σ.1 ∧ o.2.2.1 = σ.2.2.1) ∧ (∀ a, a ≠ m + 3 → o.2.2.2 a = σ.2.2.2 a) ∧ (∀ a, a ≠ m + 1 → a ≠ m + 2 → o.2.1 a = σ.2.1 a) ∧ ∀ s, s < 4 → o.2.1 (m + 1) s = σ.2.1 (m + 11) s ∧ o.2.1 (m + 2) s = σ.2.1 (m + 12) s ∧ o.2.2.2 (m + 3) s = σ.2.2.2 (m + 13) s := by
  refine zloop_run 4 (fun i z => z.2 = zi (i : Nat) ∧ (z.1.1 = σ.1 ∧ z.1.2.2.1 = σ.2.2.1) ∧ (∀ a, a ≠ m + 3 → z.1.2.2.2 a = σ.2.2.2 a) ∧ (∀ a, a ≠ m + 1 → a ≠ m + 2 → z.1.2.1 a = σ.2.1 a) ∧ ∀ s, s < i → z.1.2.1 (m + 1) s = σ.2.1 (m + 11) s ∧ z.1.2.1 (m + 2) s = σ.2.1 (m + 12) s ∧ z.1.2.2.2 (m + 3) s = σ.2.2.2 (m + 13) s) _ (fun i z hi hp => ?_) (fun z hp => ?_) (zfuel_lt (by omega)) ⟨rfl, ⟨rfl, rfl⟩, fun _ _ => rfl, fun _ _ _ => rfl, fun s hs => absurd hs (by omega)⟩
  · obtain ⟨z, v⟩ := z
    obtain ⟨q, ⟨a1, a2⟩, a3, a4, a5⟩ := hp
    dsimp only at q a1 a2 a3 a4 a5
    subst q
    have k1 : rsh z m := rsh_fr h a1 a2
    have k2 : rsh (zuI z (m + 1) i (σ.2.1 (m + 11) i)) m := rsh_uI k1
    have k3 : rsh (zuI (zuI z (m + 1) i (σ.2.1 (m + 11) i)) (m + 2) i (σ.2.1 (m + 12) i)) m := rsh_uI k2
    have r12 : (zuI z (m + 1) i (σ.2.1 (m + 11) i)).2.1 (m + 12) i = σ.2.1 (m + 12) i := by
      rw [zuI_row, if_neg (by omega), a4 _ (by omega) (by omega)]
    refine Or.inl ⟨(zuJ (zuI (zuI z (m + 1) i (σ.2.1 (m + 11) i)) (m + 2) i (σ.2.1 (m + 12) i)) (m + 3) i (σ.2.2.2 (m + 13) i), zi ((i + 1 : Nat) : Int)), ?_, rfl, ⟨a1, a2⟩, fun a ha => ?_, fun a b1 b2 => ?_, fun s hs => ⟨?_, ?_, ?_⟩⟩
    · unfold sX10_takesDraft_18 sX10_takesDraft_18b
      dsimp only
      rw [if_neg (show ¬ zi 4 ≤ zi (i : Nat) by rw [zi_le (by omega) (by omega) (by omega) (by omega)]; omega), rsh_3 k1, Option.bind_some, rsh_27 k1, Option.bind_some, zaI_of i (rsk_11 k1) rfl hi (by decide), Option.bind_some, a4 (m + 11) (by omega) (by omega), zsI_of i (rsk_1 k1) rfl hi (by decide), Option.bind_some, rsh_4 k2, Option.bind_some, rsh_28 k2, Option.bind_some, zaI_of i (rsk_12 k2) rfl hi (by decide), Option.bind_some, r12, zsI_of i (rsk_2 k2) rfl hi (by decide), Option.bind_some, rsh_5 k3, Option.bind_some, rsh_29 k3, Option.bind_some, zaJ_of i (rsk_13 k3) rfl hi (by decide), Option.bind_some, show (zuI (zuI z (m + 1) i (σ.2.1 (m + 11) i)) (m + 2) i (σ.2.1 (m + 12) i)).2.2.2 (m + 13) i = σ.2.2.2 (m + 13) i from congrFun (a3 (m + 13) (by omega)) i, zsJ_of i (rsk_3 k3) rfl hi (by decide), Option.bind_some, zi_add]
      rfl
    · show zu z.2.2.2 (m + 3) i (σ.2.2.2 (m + 13) i) a = _
      rw [show zu z.2.2.2 (m + 3) i (σ.2.2.2 (m + 13) i) a = z.2.2.2 a from zu_off _ _ _ ha]
      exact a3 a ha
    · show (zuI (zuI z (m + 1) i (σ.2.1 (m + 11) i)) (m + 2) i (σ.2.1 (m + 12) i)).2.1 a = _
      rw [show (zuI (zuI z (m + 1) i (σ.2.1 (m + 11) i)) (m + 2) i (σ.2.1 (m + 12) i)).2.1 a = (zuI z (m + 1) i (σ.2.1 (m + 11) i)).2.1 a from zu_off _ _ _ b2, show (zuI z (m + 1) i (σ.2.1 (m + 11) i)).2.1 a = z.2.1 a from zu_off _ _ _ b1]
      exact a4 a b1 b2
    · show (zuI (zuI z (m + 1) i (σ.2.1 (m + 11) i)) (m + 2) i (σ.2.1 (m + 12) i)).2.1 (m + 1) s = _
      rw [zuI_row, if_neg (by omega), zuI_row]
      by_cases e : s = i
      · subst e
        rw [if_pos ⟨rfl, rfl⟩]
      · rw [if_neg (fun q => e q.2)]
        exact (a5 s (by omega)).1
    · show (zuI (zuI z (m + 1) i (σ.2.1 (m + 11) i)) (m + 2) i (σ.2.1 (m + 12) i)).2.1 (m + 2) s = _
      rw [zuI_row]
      by_cases e : s = i
      · subst e
        rw [if_pos ⟨rfl, rfl⟩]
      · rw [if_neg (fun q => e q.2), zuI_row, if_neg (by omega)]
        exact (a5 s (by omega)).2.1
    · show (if m + 3 = m + 3 ∧ s = i then σ.2.2.2 (m + 13) i else z.2.2.2 (m + 3) s) = _
      by_cases e : s = i
      · subst e
        rw [if_pos ⟨rfl, rfl⟩]
      · rw [if_neg (fun q => e q.2)]
        exact (a5 s (by omega)).2.2
  · obtain ⟨z, v⟩ := z
    obtain ⟨q, hp⟩ := hp
    dsimp only at q hp
    subst q
    refine ⟨z, ?_, hp⟩
    unfold sX10_takesDraft_18 sX10_takesDraft_18b
    dsimp only
    rw [if_pos (by decide)]
end QH
