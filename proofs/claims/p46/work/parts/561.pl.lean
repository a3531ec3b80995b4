/-! The class's parser: bytes, kinds, tokens. -/
def TB (tx : List Int32) : Prop := ∀ i, i < tx.length → -128 ≤ pc tx i ∧ pc tx i ≤ 127
theorem gD_zi (tx : List Int32) (i : Nat) : tx.getD i 0 = zi (pc tx i) ∧ zin (pc tx i) := by
  unfold pc zi
  refine ⟨(Int32.ofInt_toInt _).symm, ?_, ?_⟩
  · exact Int32.le_toInt _
  · exact Int32.toInt_lt _
theorem gD_out {tx : List Int32} {i : Nat} (h : tx.length ≤ i) : tx.getD i 0 = zi 0 ∧ pc tx i = 0 := by
  have e : tx.getD i 0 = zi 0 := by
    rw [List.getD_eq_getElem?_getD, List.getElem?_eq_none h]
    rfl
  refine ⟨e, ?_⟩
  unfold pc
  rw [e]
  rfl
def PSh (τ : zS) (X u : Nat) (tx : List Int32) : Prop :=
  (τ.1 (X + 3)).1 = 10 ∧ (τ.2.2.1 (X + 3) 2 = some (X + 1) ∧ τ.2.2.1 (X + 3) 3 = some u) ∧ ((τ.1 (X + 1)).1 = 7 ∧ τ.2.2.1 (X + 1) 0 = some (X + 2) ∧ τ.1 (X + 2) = (2, 300)) ∧ sush τ u ∧ X + 6 ≤ u ∧ (τ.2.1 (X + 1) 1 = zi tx.length ∧ tx.length ≤ 300 ∧ ∀ i, i < tx.length → τ.2.1 (X + 2) i = tx.getD i 0) ∧ TB tx
/-- only the parser's and the draft's numbers change -/
def pfr (X u : Nat) (σ τ : zS) : Prop := τ.1 = σ.1 ∧ τ.2.2 = σ.2.2 ∧ ∀ a, a ≠ X + 3 → (a < u ∨ u + 10 ≤ a) → τ.2.1 a = σ.2.1 a
theorem pfr_refl {X u : Nat} {σ : zS} : pfr X u σ σ := ⟨rfl, rfl, fun _ _ _ => rfl⟩
theorem pfr_trans {X u : Nat} {σ τ υ : zS} (h : pfr X u σ τ) (g : pfr X u τ υ) : pfr X u σ υ := ⟨g.1.trans h.1, g.2.1.trans h.2.1, fun a a1 a2 => (g.2.2 a a1 a2).trans (h.2.2 a a1 a2)⟩
section PL
variable {σ τ υ : zS} {X u : Nat} {tx : List Int32}
theorem PSh_fr (h : PSh σ X u tx) (e : pfr X u σ τ) : PSh τ X u tx := by
  obtain ⟨a1, a2, a3, a4, a5, a6, a7⟩ := h
  obtain ⟨e1, e2, e3⟩ := e
  unfold PSh sush
  rw [e1, e2, e3 (X + 1) (by omega) (by omega), e3 (X + 2) (by omega) (by omega)]
  exact ⟨a1, a2, a3, a4, a5, a6, a7⟩
theorem pfr_3 {j : Nat} {v : Int32} : pfr X u σ (zuI σ (X + 3) j v) := ⟨rfl, rfl, fun a a1 _ => zu_off _ _ _ a1⟩
theorem pg_i {j : Nat} (h : PSh τ X u tx) : zgI 5 j τ (X + 3) = some (τ.2.1 (X + 3) j) := if_pos h.1
theorem pp_i {j : Nat} {v : Int32} (h : PSh τ X u tx) : zpI 5 j τ (X + 3) v = some (zuI τ (X + 3) j v) := if_pos h.1
theorem pg_t (h : PSh τ X u tx) : zgR 5 2 τ (X + 3) = some (X + 1) := (if_pos h.1).trans h.2.1.1
theorem pg_s (h : PSh τ X u tx) : zgR 5 3 τ (X + 3) = some u := (if_pos h.1).trans h.2.1.2
theorem pg_l (h : PSh τ X u tx) : zgI 2 1 τ (X + 1) = some (zi tx.length) := by
  rw [show zgI 2 1 τ (X + 1) = some (τ.2.1 (X + 1) 1) from if_pos h.2.2.1.1, h.2.2.2.2.2.1.1]
theorem pg_b (h : PSh τ X u tx) : zgR 2 0 τ (X + 1) = some (X + 2) := (if_pos h.2.2.1.1).trans h.2.2.1.2.1
theorem pck2 {A : Type} {o : Option A} (h : PSh τ X u tx) : zck 2 τ (X + 1) o = o := if_pos h.2.2.1.1
theorem pck5 {A : Type} {o : Option A} (h : PSh τ X u tx) : zck 5 τ (X + 3) o = o := if_pos h.1
theorem pck7 {A : Type} {o : Option A} (h : PSh τ X u tx) : zck 7 τ u o = o := if_pos h.2.2.2.1.1
theorem plen (h : PSh τ X u tx) : tx.length ≤ 300 := h.2.2.2.2.2.1.2.1
theorem px_byte {x : Int} (i : Nat) (h : PSh τ X u tx) (hx : x = i) (hi : i < 2000000) : fX2_byteAt τ (X + 1) (zi x) = some (τ, tx.getD i 0) := by
  subst hx
  have hl := plen h
  unfold fX2_byteAt
  simp only [pg_l h, pg_b h, Option.bind_some, zi_lt (show (-2147483648 : Int) ≤ i by omega) (show (i : Int) < 2147483648 by omega) (show (-2147483648 : Int) ≤ 0 by omega) (show (0 : Int) < 2147483648 by omega), zi_le (show (-2147483648 : Int) ≤ tx.length by omega) (show (tx.length : Int) < 2147483648 by omega) (show (-2147483648 : Int) ≤ i by omega) (show (i : Int) < 2147483648 by omega)]
  rw [if_neg (by omega)]
  by_cases e : (tx.length : Int) ≤ i
  · rw [if_pos e, (gD_out (by omega)).1]
  · have g : zlen τ (X + 2) = some (zi 300) := by
      unfold zlen
      rw [h.2.2.1.2.2, if_neg (by decide)]
      rfl
    rw [if_neg e, g, Option.bind_some, if_neg (by rw [zi_le (by omega) (by omega) (by omega) (by omega)]; omega), zaB_of i h.2.2.1.2.2 rfl (by omega) (by decide), h.2.2.2.2.2.1.2.2 i (by omega)]
    rfl
theorem px_kind {x : Int} (i : Nat) (h : PSh τ X u tx) (hx : x = i) (hi : i < 2000000) : fX5_kindAt τ (X + 3) (zi x) = some (τ, zi (pk tx i)) := by
  have hl := plen h
  unfold fX5_kindAt pk
  subst hx
  simp only [pg_t h, pg_l h, px_byte i h rfl hi, pck2 h, Option.bind_some, zi_lt (show (-2147483648 : Int) ≤ i by omega) (show (i : Int) < 2147483648 by omega) (show (-2147483648 : Int) ≤ tx.length by omega) (show (tx.length : Int) < 2147483648 by omega)]
  by_cases e : i < tx.length
  · obtain ⟨e1, e2, e3⟩ := gD_zi tx i
    unfold jX5_kindAt_36 jX5_kindAt_50 pck
    rw [if_pos (by omega), if_pos e, e1]
    simp only [zi_lt e2 e3 (show (-2147483648 : Int) ≤ 97 by omega) (show (97 : Int) < 2147483648 by omega), zi_lt e2 e3 (show (-2147483648 : Int) ≤ 48 by omega) (show (48 : Int) < 2147483648 by omega), zi_lt (show (-2147483648 : Int) ≤ 122 by omega) (show (122 : Int) < 2147483648 by omega) e2 e3, zi_lt (show (-2147483648 : Int) ≤ 57 by omega) (show (57 : Int) < 2147483648 by omega) e2 e3, zi_eq e2 e3 (show (-2147483648 : Int) ≤ 59 by omega) (show (59 : Int) < 2147483648 by omega)]
    generalize pc tx i = c
    by_cases c1 : c < 97
    · rw [if_pos c1, if_neg (show ¬ (97 ≤ c ∧ c ≤ 122) by omega)]
      by_cases c2 : c < 48
      · rw [if_pos c2, if_neg (show ¬ (48 ≤ c ∧ c ≤ 57) by omega), if_neg (show ¬ c = 59 by omega), if_neg (show ¬ c = 59 by omega)]
        rfl
      · rw [if_neg c2]
        by_cases c3 : 57 < c
        · rw [if_pos c3, if_neg (show ¬ (48 ≤ c ∧ c ≤ 57) by omega)]
          by_cases c4 : c = 59
          · rw [if_pos c4, if_pos c4]
            rfl
          · rw [if_neg c4, if_neg c4]
            rfl
        · rw [if_neg c3, if_pos (show 48 ≤ c ∧ c ≤ 57 by omega)]
          rfl
    · rw [if_neg c1]
      by_cases c2 : 122 < c
      · rw [if_pos c2, if_neg (show ¬ (97 ≤ c ∧ c ≤ 122) by omega), if_neg (show ¬ c < 48 by omega), if_pos (show 57 < c by omega), if_neg (show ¬ (48 ≤ c ∧ c ≤ 57) by omega), if_neg (show ¬ c = 59 by omega), if_neg (show ¬ c = 59 by omega)]
        rfl
      · rw [if_neg c2, if_pos (show 97 ≤ c ∧ c ≤ 122 by omega)]
        rfl
  · rw [if_neg (by omega), if_neg e]
    rfl
/-- the parser's token is the one behind p -/
def PT (τ : zS) (X : Nat) (tx : List Int32) (p : Nat) : Prop := τ.2.1 (X + 3) 4 = zi (pK tx p) ∧ τ.2.1 (X + 3) 5 = zi (pF tx p) ∧ τ.2.1 (X + 3) 6 = zi (pT tx p)
/-- only the token changes -/
def pfT (X : Nat) (σ τ : zS) : Prop := τ.1 = σ.1 ∧ τ.2.2 = σ.2.2 ∧ (∀ a, a ≠ X + 3 → τ.2.1 a = σ.2.1 a) ∧ ∀ j, j ≠ 4 → j ≠ 5 → j ≠ 6 → τ.2.1 (X + 3) j = σ.2.1 (X + 3) j
theorem pfT_pfr (h : pfT X σ τ) : pfr X u σ τ := ⟨h.1, h.2.1, fun a a1 _ => h.2.2.1 a a1⟩
theorem pfT_trans (h : pfT X σ τ) (g : pfT X τ υ) : pfT X σ υ := ⟨g.1.trans h.1, g.2.1.trans h.2.1, fun a a1 => (g.2.2.1 a a1).trans (h.2.2.1 a a1), fun j j1 j2 j3 => (g.2.2.2 j j1 j2 j3).trans (h.2.2.2 j j1 j2 j3)⟩
theorem pfT_I {j : Nat} {v : Int32} (hj : j = 4 ∨ j = 5 ∨ j = 6) : pfT X σ (zuI σ (X + 3) j v) := ⟨rfl, rfl, fun a a1 => zu_off _ _ _ a1, fun i i1 i2 i3 => by rw [zuI_rd, if_neg (by omega)]⟩
theorem pl_skip {p0 : Nat} (h : PSh τ X u tx) (h5 : τ.2.1 (X + 3) 5 = zi p0) (hp : p0 ≤ tx.length) : ∃ υ, zloop (sX5_advance_8 (X + 3)) zfuel τ = some υ ∧ pfT X τ υ ∧ υ.2.1 (X + 3) 5 = zi (pF tx p0) ∧ υ.2.1 (X + 3) 6 = τ.2.1 (X + 3) 6 := by
  have hl := plen h
  refine zloop_run (tx.length - p0) (fun k s => (pfT X τ s ∧ s.2.1 (X + 3) 6 = τ.2.1 (X + 3) 6) ∧ s.2.1 (X + 3) 5 = zi ((p0 + k : Nat) : Int) ∧ pF tx p0 = pto (pbl tx) (tx.length - (p0 + k)) (p0 + k)) (fun υ => pfT X τ υ ∧ υ.2.1 (X + 3) 5 = zi (pF tx p0) ∧ υ.2.1 (X + 3) 6 = τ.2.1 (X + 3) 6) ?_ ?_ (zfuel_lt (by omega)) ⟨⟨⟨rfl, rfl, fun _ _ => rfl, fun _ _ _ _ => rfl⟩, rfl⟩, h5, rfl⟩
  · intro k s hk hp2
    obtain ⟨⟨q1, q2⟩, q3, q4⟩ := hp2
    have h2 : PSh s X u tx := PSh_fr h (pfT_pfr q1)
    unfold sX5_advance_8 sX5_advance_8b
    simp only [pg_i h2, pg_t h2, pg_l h2, q3, Option.bind_some, px_byte (p0 + k) h2 rfl (by omega), pck2 h2]
    rw [if_neg (by rw [zi_le (by omega) (by omega) (by omega) (by omega)]; omega)]
    obtain ⟨e1, e2, e3⟩ := gD_zi tx (p0 + k)
    rw [e1]
    simp only [zi_eq e2 e3 (show (-2147483648 : Int) ≤ 32 by omega) (show (32 : Int) < 2147483648 by omega), zi_eq e2 e3 (show (-2147483648 : Int) ≤ 10 by omega) (show (10 : Int) < 2147483648 by omega)]
    have go : pbl tx (p0 + k) = true → ∃ s2, jX5_advance_54_L8 s (X + 3) = some (.inl s2) ∧ (pfT X τ s2 ∧ s2.2.1 (X + 3) 6 = τ.2.1 (X + 3) 6) ∧ s2.2.1 (X + 3) 5 = zi ((p0 + (k + 1) : Nat) : Int) ∧ pF tx p0 = pto (pbl tx) (tx.length - (p0 + (k + 1))) (p0 + (k + 1)) := by
      intro hb
      refine ⟨zuI s (X + 3) 5 (zi ((p0 + (k + 1) : Nat) : Int)), ?_, ⟨pfT_trans q1 (pfT_I (by omega)), by rw [zuI_rd, if_neg (by omega), q2]⟩, by rw [zuI_rd, if_pos rfl], ?_⟩
      · unfold jX5_advance_54_L8
        rw [pg_i h2, Option.bind_some, q3, zi_add, pp_i h2]
        rfl
      · rw [q4, pto_go hb (by omega)]
        rfl
    have st : pbl tx (p0 + k) = false → s.2.1 (X + 3) 5 = zi (pF tx p0) := fun hb => by rw [q3, q4, pto_stop hb]
    by_cases c1 : pc tx (p0 + k) = 32
    · rw [if_pos c1]
      exact Or.inl (go (decide_eq_true ⟨by omega, Or.inl c1⟩))
    · rw [if_neg c1]
      by_cases c2 : pc tx (p0 + k) = 10
      · rw [if_pos c2]
        exact Or.inl (go (decide_eq_true ⟨by omega, Or.inr c2⟩))
      · rw [if_neg c2]
        exact Or.inr ⟨s, rfl, q1, st (decide_eq_false (by omega)), q2⟩
  · intro s hp2
    obtain ⟨⟨q1, q2⟩, q3, q4⟩ := hp2
    have h2 : PSh s X u tx := PSh_fr h (pfT_pfr q1)
    refine ⟨s, ?_, q1, ?_, q2⟩
    · unfold sX5_advance_8 sX5_advance_8b
      rw [pg_i h2, Option.bind_some, pg_t h2, Option.bind_some, pg_l h2, Option.bind_some, q3, if_pos ((zi_le (by omega) (by omega) (by omega) (by omega)).2 (by omega))]
    · rw [q3, q4, pto_stop (decide_eq_false (by omega))]
/-- the rest of a word or number -/
theorem pl_rest {k q0 : Nat} (h : PSh τ X u tx) (h4 : τ.2.1 (X + 3) 4 = zi k) (h6 : τ.2.1 (X + 3) 6 = zi q0) (hp : q0 ≤ tx.length) (hk : k = 1 ∨ k = 2) : ∃ υ, zloop (sX5_advance_105 (X + 3)) zfuel τ = some υ ∧ pfT X τ υ ∧ υ.2.1 (X + 3) 4 = zi k ∧ υ.2.1 (X + 3) 5 = τ.2.1 (X + 3) 5 ∧ υ.2.1 (X + 3) 6 = zi (pru tx k q0) := by
  have hl := plen h
  have j105 : ∀ s : zS, PSh s X u tx → s.2.1 (X + 3) 4 = zi k → sX5_advance_105 (X + 3) s = jX5_advance_121_L105 s (X + 3) := by
    intro s h2 q
    unfold sX5_advance_105 sX5_advance_105b
    rw [pg_i h2, Option.bind_some, Option.bind_some, q]
    rcases hk with rfl | rfl
    · exact if_pos rfl
    · rw [if_neg (by decide)]
      exact if_pos rfl
  refine zloop_run (tx.length - q0) (fun i s => (pfT X τ s ∧ s.2.1 (X + 3) 4 = zi k ∧ s.2.1 (X + 3) 5 = τ.2.1 (X + 3) 5) ∧ s.2.1 (X + 3) 6 = zi ((q0 + i : Nat) : Int) ∧ pru tx k q0 = pto (fun i => decide (pk tx i = k)) (tx.length - (q0 + i)) (q0 + i)) (fun υ => pfT X τ υ ∧ υ.2.1 (X + 3) 4 = zi k ∧ υ.2.1 (X + 3) 5 = τ.2.1 (X + 3) 5 ∧ υ.2.1 (X + 3) 6 = zi (pru tx k q0)) ?_ ?_ (zfuel_lt (by omega)) ⟨⟨⟨rfl, rfl, fun _ _ => rfl, fun _ _ _ _ => rfl⟩, h4, rfl⟩, h6, rfl⟩
  · intro i s hi hp2
    obtain ⟨⟨q1, q2, q5⟩, q3, q4⟩ := hp2
    have h2 : PSh s X u tx := PSh_fr h (pfT_pfr q1)
    rw [j105 s h2 q2]
    unfold jX5_advance_121_L105
    simp only [pg_i h2, pg_t h2, pg_l h2, q3, q2, Option.bind_some, px_kind (q0 + i) h2 rfl (by omega), pck5 h2]
    rw [if_neg (by rw [zi_le (by omega) (by omega) (by omega) (by omega)]; omega)]
    have hle := ppk_le (tx := tx) (p := q0 + i)
    by_cases c : pk tx (q0 + i) = k
    · rw [if_pos (by rw [c]), zi_add, pp_i h2]
      refine Or.inl ⟨zuI s (X + 3) 6 (zi ((q0 + (i + 1) : Nat) : Int)), rfl, ⟨pfT_trans q1 (pfT_I (by omega)), by rw [zuI_rd, if_neg (by omega), q2], by rw [zuI_rd, if_neg (by omega), q5]⟩, by rw [zuI_rd, if_pos rfl], ?_⟩
      rw [q4, pto_go (decide_eq_true c) (by omega)]
      rfl
    · rw [if_neg (by rw [zi_eq (by omega) (by omega) (by omega) (by omega)]; omega)]
      exact Or.inr ⟨s, rfl, q1, q2, q5, by rw [q3, q4, pto_stop (decide_eq_false c)]⟩
  · intro s hp2
    obtain ⟨⟨q1, q2, q5⟩, q3, q4⟩ := hp2
    have h2 : PSh s X u tx := PSh_fr h (pfT_pfr q1)
    refine ⟨s, ?_, q1, q2, q5, ?_⟩
    · rw [j105 s h2 q2]
      unfold jX5_advance_121_L105
      rw [pg_i h2, Option.bind_some, pg_t h2, Option.bind_some, pg_l h2, Option.bind_some, q3, if_pos ((zi_le (by omega) (by omega) (by omega) (by omega)).2 (by omega))]
    · rw [q3, q4, pto_stop (decide_eq_false (by
        have := (ppk_0 (tx := tx) (p := q0 + (tx.length - q0))).2 (by omega)
        omega))]
theorem pl_adv {p0 : Nat} (h : PSh τ X u tx) (h6 : τ.2.1 (X + 3) 6 = zi p0) (hp : p0 ≤ tx.length) : ∃ υ, fX5_advance τ (X + 3) = some υ ∧ pfT X τ υ ∧ PT υ X tx p0 := by
  have hl := plen h
  have hf := pF_in (tx := tx) hp
  have h1 : PSh (zuI τ (X + 3) 5 (zi p0)) X u tx := PSh_fr h pfr_3
  obtain ⟨s, e1, q1, q5, q6⟩ := pl_skip (p0 := p0) h1 (by rw [zuI_rd, if_pos rfl]) hp
  have q1 : pfT X τ s := pfT_trans (pfT_I (by omega)) q1
  have h2 : PSh s X u tx := PSh_fr h (pfT_pfr q1)
  have h3 : PSh (zuI s (X + 3) 4 (zi (pk tx (pF tx p0)))) X u tx := PSh_fr h2 pfr_3
  have h4 : PSh (zuI (zuI s (X + 3) 4 (zi (pk tx (pF tx p0)))) (X + 3) 6 (zi (pF tx p0))) X u tx := PSh_fr h3 pfr_3
  have h5 : PSh (zuI (zuI (zuI s (X + 3) 4 (zi (pk tx (pF tx p0)))) (X + 3) 6 (zi (pF tx p0))) (X + 3) 6 (zi ((pF tx p0 + 1 : Nat) : Int))) X u tx := PSh_fr h4 pfr_3
  have f3 : pfT X τ (zuI (zuI s (X + 3) 4 (zi (pk tx (pF tx p0)))) (X + 3) 6 (zi (pF tx p0))) := pfT_trans (pfT_trans q1 (pfT_I (by omega))) (pfT_I (by omega))
  have f4 : pfT X τ (zuI (zuI (zuI s (X + 3) 4 (zi (pk tx (pF tx p0)))) (X + 3) 6 (zi (pF tx p0))) (X + 3) 6 (zi ((pF tx p0 + 1 : Nat) : Int))) := pfT_trans f3 (pfT_I (by omega))
  have hle := ppk_le (tx := tx) (p := pF tx p0)
  have r4 : (zuI (zuI s (X + 3) 4 (zi (pk tx (pF tx p0)))) (X + 3) 6 (zi (pF tx p0))).2.1 (X + 3) 4 = zi (pk tx (pF tx p0)) := by
    rw [zuI_rd, if_neg (by omega), zuI_rd, if_pos rfl]
  unfold fX5_advance
  rw [pg_i h, Option.bind_some, h6, pp_i h, Option.bind_some, e1, Option.bind_some]
  unfold jX5_advance_67
  simp only [pg_i h2, q5, Option.bind_some, px_kind (pF tx p0) h2 rfl (by omega), pck5 h2, pp_i h2, pg_i h3, pp_i h3, pg_i h4, r4]
  rw [show (zuI s (X + 3) 4 (zi (pk tx (pF tx p0)))).2.1 (X + 3) 5 = zi (pF tx p0) from by rw [zuI_rd, if_neg (by omega), q5]]
  simp only [Option.bind_some, pg_i h4, r4]
  by_cases k0 : pk tx (pF tx p0) = 0
  · rw [if_pos (by rw [k0]; rfl)]
    refine ⟨_, rfl, f3, r4, ?_, ?_⟩
    · rw [zuI_rd, if_neg (by omega), zuI_rd, if_neg (by omega), q5]
    · rw [zuI_rd, if_pos rfl]
      unfold pT pE
      rw [if_pos k0]
  · have hlt := ppk_in k0
    rw [if_neg (by rw [zi_eq (by omega) (by omega) (by omega) (by omega)]; omega), show (zuI (zuI s (X + 3) 4 (zi (pk tx (pF tx p0)))) (X + 3) 6 (zi (pF tx p0))).2.1 (X + 3) 6 = zi (pF tx p0) from by rw [zuI_rd, if_pos rfl], zi_add, pp_i h4, Option.bind_some]
    rw [show zi ((pF tx p0 : Int) + 1) = zi ((pF tx p0 + 1 : Nat) : Int) from rfl]
    have r5 : (zuI (zuI (zuI s (X + 3) 4 (zi (pk tx (pF tx p0)))) (X + 3) 6 (zi (pF tx p0))) (X + 3) 6 (zi ((pF tx p0 + 1 : Nat) : Int))).2.1 (X + 3) 4 = zi (pk tx (pF tx p0)) := by rw [zuI_rd, if_neg (by omega), r4]
    have r6 : (zuI (zuI (zuI s (X + 3) 4 (zi (pk tx (pF tx p0)))) (X + 3) 6 (zi (pF tx p0))) (X + 3) 6 (zi ((pF tx p0 + 1 : Nat) : Int))).2.1 (X + 3) 5 = zi (pF tx p0) := by rw [zuI_rd, if_neg (by omega), zuI_rd, if_neg (by omega), zuI_rd, if_neg (by omega), q5]
    by_cases k1 : pk tx (pF tx p0) = 1 ∨ pk tx (pF tx p0) = 2
    · obtain ⟨υ, w1, w2, w3, w4, w5⟩ := pl_rest (k := pk tx (pF tx p0)) (q0 := pF tx p0 + 1) h5 r5 (by rw [zuI_rd, if_pos rfl]) (by omega) k1
      rw [w1]
      refine ⟨υ, rfl, pfT_trans f4 w2, w3, by rw [w4, r6], ?_⟩
      rw [w5]
      unfold pT pE
      rw [if_neg k0, if_pos k1]
    · obtain ⟨υ, w1, w2⟩ : ∃ υ, zloop (sX5_advance_105 (X + 3)) zfuel (zuI (zuI (zuI s (X + 3) 4 (zi (pk tx (pF tx p0)))) (X + 3) 6 (zi (pF tx p0))) (X + 3) 6 (zi ((pF tx p0 + 1 : Nat) : Int))) = some υ ∧ υ = zuI (zuI (zuI s (X + 3) 4 (zi (pk tx (pF tx p0)))) (X + 3) 6 (zi (pF tx p0))) (X + 3) 6 (zi ((pF tx p0 + 1 : Nat) : Int)) := by
        refine zloop_run 0 (fun _ t => t = zuI (zuI (zuI s (X + 3) 4 (zi (pk tx (pF tx p0)))) (X + 3) 6 (zi (pF tx p0))) (X + 3) 6 (zi ((pF tx p0 + 1 : Nat) : Int))) _ (fun i _ hi => absurd hi (by omega)) ?_ (by decide) rfl
        rintro t rfl
        refine ⟨_, ?_, rfl⟩
        unfold sX5_advance_105 sX5_advance_105b
        rw [pg_i h5, Option.bind_some, Option.bind_some, r5, if_neg (by rw [zi_eq (by omega) (by omega) (by omega) (by omega)]; omega), if_neg (by rw [zi_eq (by omega) (by omega) (by omega) (by omega)]; omega)]
      subst w2
      rw [w1]
      refine ⟨_, rfl, f4, r5, r6, ?_⟩
      rw [zuI_rd, if_pos rfl]
      unfold pT pE
      rw [if_neg k0, if_neg k1]
end PL
