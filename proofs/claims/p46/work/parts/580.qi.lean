/-! The reference parses, and finds a name. -/
section QI2
variable {σ τ υ : zS} {m p k w K : Nat} {tx ou : List Int32} {D : pD} {P : qP} {M : qM} {H : List qM} {S : Option qM} {nm : Nat → List Int32} {er ea : Int} {e : Nat × Nat}
theorem pse0_in (h : pDok D) (hw : w < 9) (h4 : 4 ≤ w) : (w = 8 ∨ plo w ≤ pse0 D w) ∧ 0 ≤ pse0 D w ∧ pse0 D w ≤ pup w := by
  have h2 := plo_all w
  unfold pse0
  cases hS : D.2.2.2.2.2 (w - 4) with
  | none =>
    have : w = 4 ∨ w = 5 ∨ w = 6 ∨ w = 7 ∨ w = 8 := by omega
    rcases this with rfl | rfl | rfl | rfl | rfl <;> decide
  | some v =>
    have := h.2.2.2.2 _ _ hS
    rw [show w - 4 + 4 = w by omega] at this
    dsimp only
    omega
theorem pM_I (h : pDok D) (hP : qPok (pP D)) : qI (pP D) (pM D) := by
  have h4 := pse0_in (w := 4) h (by omega) (by omega)
  have h6 := pse0_in (w := 6) h (by omega) (by omega)
  have h7 := pse0_in (w := 7) h (by omega) (by omega)
  have l4 : plo 4 = 1 := by decide
  have l6 : plo 6 = 1 := by decide
  have u4 : pup 4 = 4 := by decide
  have u6 : pup 6 = 9 := by decide
  have u7 : pup 7 = 99 := by decide
  refine qI_start hP (by omega) (by omega) (by omega) ?_ (fun s hs => ?_)
  · split
    · exact Or.inr rfl
    · exact Or.inl rfl
  · have := (h.2.1 s).2.2
    omega
end QI2
