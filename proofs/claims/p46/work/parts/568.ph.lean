/-! What a text's statements keep; the class reads a whole text. -/
def pDok (D : pD) : Prop := D.1 ≤ 4 ∧ (∀ s, D.2.1 s ≤ 200 ∧ D.2.2.1 s ≤ 999 ∧ D.2.2.2.1 s ≤ 9) ∧ (∀ s, D.1 ≤ s → D.2.1 s = 0 ∧ D.2.2.2.1 s = 0) ∧ (∀ s, s < D.1 → 1 ≤ (D.2.2.2.2.1 s).length ∧ (D.2.2.2.2.1 s).length ≤ 8 ∧ ∀ c, c ∈ D.2.2.2.2.1 s → 97 ≤ c.toInt ∧ c.toInt ≤ 122) ∧ ∀ k v, D.2.2.2.2.2 k = some v → plo (k + 4) ≤ v ∧ (v : Int) ≤ pup (k + 4)
theorem pb_inr {A B : Type} {x : (Nat × Nat) ⊕ A} {f : A → (Nat × Nat) ⊕ B} {b : B} (h : pb x f = .inr b) : ∃ a, x = .inr a ∧ f a = .inr b := by
  cases x with
  | inl e => cases h
  | inr a => exact ⟨a, rfl, h⟩
section PH
variable {σ τ υ : zS} {X u p w c : Nat} {tx : List Int32} {D : pD}
theorem plo_all : ∀ w, 0 ≤ plo w ∧ pup w ≤ 999 := by
  intro w
  by_cases h : w < 9
  · have := plo_t w h
    omega
  · constructor
    · unfold plo
      split <;> omega
    · unfold pup
      rw [List.getD_eq_getElem?_getD, List.getElem?_eq_none (by show 9 ≤ w; omega)]
      decide
theorem pDok_v (h : pDok D) : ∀ k v, D.2.2.2.2.2 k = some v → v < 1000 := fun k v e => by
  have h1 := h.2.2.2.2 k v e
  have h2 := plo_all (k + 4)
  omega
theorem pDok_0 : pDok pD0 := ⟨by decide, fun s => ⟨by show 0 ≤ 200; omega, by show 0 ≤ 999; omega, by show 0 ≤ 9; omega⟩, fun s _ => ⟨rfl, rfl⟩, fun s h => absurd (show s < 0 from h) (by omega), fun k v h => by cases h⟩
theorem pnb_ok {a : Nat × Nat} (h : pnb tx w p = .inr a) : plo w ≤ a.1 ∧ (a.1 : Int) ≤ pup w ∧ a.2 = pT tx p ∧ pK tx p ≠ 0 := by
  have e := pnb_to h
  unfold pnb at h
  split at h
  next h1 =>
    split at h
    next h2 =>
      have := plo_all w
      cases h
      exact ⟨by dsimp only; omega, by dsimp only; omega, e, by omega⟩
    next => cases h
  next => cases h
theorem pW_K (h : pW tx p = some w) : pK tx p = 1 := by
  unfold pW at h
  split at h
  · assumption
  · cases h
theorem pwd_ok {a : Nat} (h : pwd tx w p = .inr a) : a = pT tx p ∧ pK tx p = 1 := by
  refine ⟨pwd_to h, ?_⟩
  unfold pwd at h
  split at h
  next h1 => exact pW_K h1
  next => cases h
theorem pna_ok {a : Nat} (h : pna tx D p = .inr a) : a = pT tx p ∧ pK tx p = 1 ∧ pT tx p - pF tx p ≤ 8 := by
  refine ⟨pna_to h, ?_⟩
  unfold pna at h
  split at h
  next h1 => exact ⟨h1.1, h1.2.1⟩
  next => cases h
theorem plet {i : Nat} (hk : pK tx p = 1) (h1 : pF tx p ≤ i) (h2 : i < pT tx p) : 97 ≤ pc tx i ∧ pc tx i ≤ 122 := by
  have hk2 : pk tx i = 1 := by
    unfold pK at hk
    by_cases e : i = pF tx p
    · rw [e, hk]
    · unfold pT pE at h2
      rw [if_neg (by omega), if_pos (by omega), hk] at h2
      unfold pru at h2
      exact of_decide_eq_true (pto_f (f := fun i => decide (pk tx i = 1)) (show pF tx p + 1 ≤ i by omega) h2)
  unfold pk pck at hk2
  split at hk2
  · split at hk2
    · assumption
    · split at hk2
      · cases hk2
      · split at hk2 <;> cases hk2
  · cases hk2
theorem plet_tx (hk : pK tx p = 1) (hp : p ≤ tx.length) : 1 ≤ (ptx tx (pF tx p) (pT tx p)).length ∧ ∀ c, c ∈ ptx tx (pF tx p) (pT tx p) → 97 ≤ c.toInt ∧ c.toInt ≤ 122 := by
  obtain ⟨b1, b2, b3, b4⟩ := pT_in hp
  have h1 := pF_in hp
  have hlt : pF tx p < pT tx p := (pE_in (tx := tx) (f := pF tx p) h1.2).2.2 (show pk tx (pF tx p) ≠ 0 by unfold pK at hk; omega)
  refine ⟨by rw [ptx_len b2]; omega, fun c hc => ?_⟩
  obtain ⟨i, hi, e⟩ := List.getElem_of_mem hc
  have hi2 : i < pT tx p - pF tx p := by rwa [ptx_len b2] at hi
  have := plet hk (show pF tx p ≤ pF tx p + i by omega) (show pF tx p + i < pT tx p by omega)
  unfold pc at this
  rw [← ptx_at (tx := tx) hi2, List.getD_eq_getElem?_getD, List.getElem?_eq_getElem hi, e] at this
  exact this
theorem psr_ok {a : pD × Nat} (hD : pDok D) (hp : p ≤ tx.length) (h : psr tx D p = .inr a) : pDok a.1 ∧ pT tx p ≤ a.2 ∧ a.2 ≤ tx.length ∧ a.1.1 = D.1 + 1 := by
  unfold psr at h
  split at h
  · cases h
  next h4 =>
    obtain ⟨p2, e2, h⟩ := pb_inr h
    obtain ⟨p3, e3, h⟩ := pb_inr h
    obtain ⟨n1, e4, h⟩ := pb_inr h
    obtain ⟨p4, e5, h⟩ := pb_inr h
    obtain ⟨n2, e6, h⟩ := pb_inr h
    obtain ⟨n3, e7, h⟩ := pb_inr h
    cases h
    obtain ⟨q2, k2, l2⟩ := pna_ok e2
    obtain ⟨q3, k3⟩ := pwd_ok e3
    obtain ⟨m1, m2, q4, -⟩ := pnb_ok e4
    obtain ⟨q5, k5⟩ := pwd_ok e5
    obtain ⟨m3, m4, q6, -⟩ := pnb_ok e6
    have i1 := pT_in hp
    have i2 := pT_in (tx := tx) i1.2.1
    have i3 := pT_in (tx := tx) i2.2.1
    rw [← q2] at i3
    rw [← q3] at i3
    have i4 := pT_in (tx := tx) i3.2.1
    rw [← q4] at i4
    have i5 := pT_in (tx := tx) i4.2.1
    rw [← q5] at i5
    have i6 := pT_in (tx := tx) i5.2.1
    rw [← q6] at i6
    have i7 := pT_in (tx := tx) i6.2.1
    have i8 := pT_in (tx := tx) i7.2.1
    have hl : (n3.1 : Int) ≤ 9 ∧ n2.2 ≤ n3.2 ∧ n3.2 ≤ tx.length := by
      unfold pla at e7
      split at e7
      · obtain ⟨r1, r2, r3, -⟩ := pnb_ok e7
        have : pup 3 = 9 := by decide
        omega
      · cases e7
        dsimp only
        omega
    have pu1 : pup 1 = 200 := by decide
    have pu2 : pup 2 = 999 := by decide
    obtain ⟨d1, d2, d3, d4, d5⟩ := hD
    have hn := plet_tx k2 i1.2.1
    refine ⟨⟨by show D.1 + 1 ≤ 4; omega, fun s => ?_, fun s hs => ?_, fun s hs => ?_, d5⟩, by dsimp only; omega, hl.2.2, rfl⟩
    · have := d2 s
      show qu D.2.1 D.1 n1.1 s ≤ 200 ∧ qu D.2.2.1 D.1 n2.1 s ≤ 999 ∧ qu D.2.2.2.1 D.1 n3.1 s ≤ 9
      by_cases e : s = D.1
      · subst e
        rw [qu_at, qu_at, qu_at]
        omega
      · rw [qu_ne e, qu_ne e, qu_ne e]
        exact this
    · have hs2 : D.1 + 1 ≤ s := hs
      show qu D.2.1 D.1 n1.1 s = 0 ∧ qu D.2.2.2.1 D.1 n3.1 s = 0
      rw [qu_ne (by omega), qu_ne (by omega)]
      exact d3 s (by omega)
    · have hs2 : s < D.1 + 1 := hs
      show 1 ≤ (qu D.2.2.2.2.1 D.1 _ s).length ∧ (qu D.2.2.2.2.1 D.1 _ s).length ≤ 8 ∧ ∀ c, c ∈ qu D.2.2.2.2.1 D.1 _ s → _
      by_cases e : s = D.1
      · subst e
        rw [qu_at]
        exact ⟨hn.1, by rw [ptx_len i2.2.1]; exact l2, hn.2⟩
      · rw [qu_ne e]
        exact d4 s (by omega)
theorem pse_ok {a : pD × Nat} (hD : pDok D) (hp : p ≤ tx.length) (h4 : 4 ≤ w) (h : pse tx D w p = .inr a) : pDok a.1 ∧ pT tx p ≤ a.2 ∧ a.2 ≤ tx.length := by
  have i1 := pT_in hp
  have i2 := pT_in (tx := tx) i1.2.1
  obtain ⟨d1, d2, d3, d4, d5⟩ := hD
  unfold pse at h
  split at h
  · split at h
    next e8 =>
      cases h
      refine ⟨⟨d1, d2, d3, d4, fun k v hk => ?_⟩, Nat.le_refl _, i1.2.1⟩
      have hk2 : qu D.2.2.2.2.2 4 (some 1) k = some v := hk
      by_cases e : k = 4
      · subst e
        rw [qu_at] at hk2
        cases hk2
        decide
      · rw [qu_ne e] at hk2
        exact d5 k v hk2
    next =>
      obtain ⟨b, e2, h⟩ := pb_inr h
      cases h
      obtain ⟨m1, m2, m3, -⟩ := pnb_ok e2
      refine ⟨⟨d1, d2, d3, d4, fun k v hk => ?_⟩, by dsimp only; omega, by dsimp only; omega⟩
      have hk2 : qu D.2.2.2.2.2 (w - 4) (some b.1) k = some v := hk
      by_cases e : k = w - 4
      · subst e
        rw [qu_at] at hk2
        cases hk2
        rw [show w - 4 + 4 = w by omega]
        exact ⟨m1, m2⟩
      · rw [qu_ne e] at hk2
        exact d5 k v hk2
  · cases h
theorem psm_ok {a : Nat} (h : psm tx p = .inr a) : a = pT tx p ∧ pK tx p = 3 := by
  refine ⟨psm_to h, ?_⟩
  unfold psm at h
  split at h
  · assumption
  · cases h
theorem pst_ok {a : pD × Nat} (hD : pDok D) (hp : p ≤ tx.length) (h : pst tx D p = .inr a) : pDok a.1 ∧ p < a.2 ∧ a.2 ≤ tx.length := by
  have i1 := pT_in hp
  unfold pst at h
  split at h
  · cases h
  next w hW =>
    have hK := pW_K hW
    split at h
    · obtain ⟨b, e1, h⟩ := pb_inr h
      obtain ⟨p2, e2, h⟩ := pb_inr h
      cases h
      obtain ⟨r1, r2, r3, -⟩ := psr_ok hD hp e1
      have i2 := pT_in (tx := tx) r3
      have := (psm_ok e2).1
      exact ⟨r1, by dsimp only; omega, by dsimp only; omega⟩
    · split at h
      next h4 =>
        obtain ⟨b, e1, h⟩ := pb_inr h
        obtain ⟨p2, e2, h⟩ := pb_inr h
        cases h
        obtain ⟨r1, r2, r3⟩ := pse_ok hD hp h4 e1
        have i2 := pT_in (tx := tx) r3
        have := (psm_ok e2).1
        exact ⟨r1, by dsimp only; omega, by dsimp only; omega⟩
      · cases h
theorem plp_ok : ∀ (n : Nat) (D : pD) (p : Nat) (a : pD × Nat), pDok D → p ≤ tx.length → tx.length ≤ p + n → plp tx n D p = .inr a → pDok a.1 ∧ a.2 ≤ tx.length ∧ pK tx a.2 = 0
  | 0, D, p, a, hD, hp, hl, h => by
    cases h
    refine ⟨hD, hp, ?_⟩
    have := pF_in hp
    exact ppk_0.2 (by dsimp only; omega)
  | n + 1, D, p, a, hD, hp, hl, h => by
    unfold plp at h
    split at h
    next hk =>
      cases h
      exact ⟨hD, hp, hk⟩
    next =>
      obtain ⟨b, e1, h⟩ := pb_inr h
      obtain ⟨r1, r2, r3⟩ := pst_ok hD hp e1
      exact plp_ok n b.1 b.2 a r1 r3 (by omega) h
theorem ppa_ok (hl : tx.length ≤ 300) {D : pD} (h : ppa tx = .inr D) : pDok D ∧ 1 ≤ D.1 ∧ qPok (pP D) ∧ (1 ≤ pse0 D 5 ∧ pse0 D 5 ≤ 2) := by
  unfold ppa at h
  obtain ⟨a, e1, h⟩ := pb_inr h
  split at h
  · cases h
  next h0 =>
    cases h
    obtain ⟨r1, r2, r3⟩ := plp_ok 300 pD0 0 a pDok_0 (by omega) (by omega) e1
    obtain ⟨d1, d2, d3, d4, d5⟩ := id r1
    have h5 : 1 ≤ pse0 a.1 5 ∧ pse0 a.1 5 ≤ 2 := by
      unfold pse0
      cases hS : a.1.2.2.2.2.2 (5 - 4) with
      | none => decide
      | some v =>
        have := d5 _ _ hS
        have e1 : plo (5 - 4 + 4) = 1 := by decide
        have e2 : pup (5 - 4 + 4) = 2 := by decide
        dsimp only
        omega
    refine ⟨r1, by omega, ⟨by show 1 ≤ a.1.1; omega, d1, ?_, ?_, fun s => (d2 s).1, fun s hs => (d3 s hs).1, fun s => (d2 s).2.1⟩, h5⟩
    · show 1 ≤ (pse0 a.1 5).toNat
      omega
    · show (pse0 a.1 5).toNat ≤ 2
      omega
end PH
