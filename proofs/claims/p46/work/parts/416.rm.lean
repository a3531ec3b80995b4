section RY
variable {σ : zS} {m : Nat} {A : Nat → Int32} {S : Nat → Int} {R : Nat → List Int} {P : qP} {M N : qM}
/-- a loop that looks whether all are so -/
theorem rall {τ : zS} {step : zS × Int32 → Option ((zS × Int32) ⊕ (zS ⊕ zS))} (n : Nat) (p : Nat → Bool) (hs : ∀ i, i < n → step (τ, zi (i : Int)) = if p i = true then some (.inl (τ, zi (i : Int) + zi 1)) else some (.inr (.inl τ))) (he : step (τ, zi (n : Int)) = some (.inr (.inr τ))) (hn : n < 1000000) : zloop step zfuel (τ, zi 0) = some (if (List.range n).all p = true then .inr τ else .inl τ) := by
  have key := zloop_run (step := step) n (fun i z => z = (τ, zi (i : Int)) ∧ ∀ j, j < i → p j = true) (fun o => o = if (List.range n).all p = true then .inr τ else .inl τ) (by
    rintro i z hi ⟨rfl, hp⟩
    cases e : p i
    · refine Or.inr ⟨_, by rw [hs i hi, if_neg (by rw [e]; decide)], ?_⟩
      rw [if_neg]
      intro q
      have := List.all_eq_true.mp q i (List.mem_range.mpr hi)
      rw [e] at this
      cases this
    · refine Or.inl ⟨_, by rw [hs i hi, if_pos e], by rw [zi_add]; rfl, fun j hj => ?_⟩
      by_cases ej : j = i
      · subst ej; exact e
      · exact hp j (by omega)) (by
    rintro z ⟨rfl, hp⟩
    refine ⟨_, he, ?_⟩
    rw [if_pos]
    exact List.all_eq_true.mpr (fun x hx => hp x (List.mem_range.mp hx))) (zfuel_lt hn) (s := (τ, zi 0)) ⟨rfl, fun j hj => by omega⟩
  obtain ⟨o, e, rfl⟩ := key
  exact e
end RY
