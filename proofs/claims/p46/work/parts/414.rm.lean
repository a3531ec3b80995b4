/-! A worker of the reference handles one thing. -/
theorem q_find {α : Type} {n : Nat} {f : Nat → α} {p : α → Bool} {j : Nat} (h : ∀ k, k < j → p (f k) = false) (hj : j < n) (hp : p (f j) = true) : ((List.range n).map f).find? p = some (f j) := by
  induction n with
  | zero => omega
  | succ n ih =>
    rw [List.range_succ, List.map_append, List.find?_append]
    by_cases e : j = n
    · subst e
      have : ((List.range j).map f).find? p = none := by
        rw [List.find?_eq_none]
        intro x hx
        rw [List.mem_map] at hx
        obtain ⟨k, hk, rfl⟩ := hx
        rw [List.mem_range] at hk
        rw [h k hk]; decide
      rw [this]
      simp [hp]
    · rw [ih (by omega)]
      rfl
theorem q_find0 {α : Type} {n : Nat} {f : Nat → α} {p : α → Bool} (h : ∀ k, k < n → p (f k) = false) : ((List.range n).map f).find? p = none := by
  rw [List.find?_eq_none]
  intro x hx
  rw [List.mem_map] at hx
  obtain ⟨k, hk, rfl⟩ := hx
  rw [List.mem_range] at hk
  rw [h k hk]; decide
section RW
variable {σ : zS} {m : Nat} {A : Nat → Int32} {S : Nat → Int} {R : Nat → List Int} {P : qP} {M N : qM}
end RW
