/-! What the reference does to its lists. -/
section RO
variable {σ : zS} {m : Nat} {A : Nat → Int32} {S : Nat → Int} {R : Nat → List Int}
theorem qu_qu {α : Type} (f : Nat → α) (k : Nat) (a b : α) : qu (qu f k a) k b = qu f k b := by
  funext j
  by_cases e : j = k
  · subst e; rw [qu_at, qu_at]
  · rw [qu_ne e, qu_ne e, qu_ne e]
end RO
