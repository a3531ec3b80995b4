/-! A state's words stay when its own cells stay, also where others are made. -/
section EQ9
variable {σ τ : zS} {X m : Nat} {P : qP} {M : qM} {H : List qM} {S : Option qM} {nm : Nat → List Int32} {tx ou : List Int32} {er ea z y : Int}
theorem csh_zeq (h : csh σ X) (z : zeq σ τ X (X + 307)) : csh τ X := by
  have e : ∀ o, o < 307 → τ.1 (X + o) = σ.1 (X + o) ∧ τ.2.2.1 (X + o) = σ.2.2.1 (X + o) := fun o ho => ⟨(z (X + o) (by omega) (by omega)).1, (z (X + o) (by omega) (by omega)).2.2.1⟩
  have e0 : τ.1 X = σ.1 X ∧ τ.2.2.1 X = σ.2.2.1 X := e 0 (by omega)
  unfold csh
  rw [e0.1, e0.2, (e 119 (by omega)).1, (e 119 (by omega)).2, (e 120 (by omega)).1, (e 120 (by omega)).2, (e 1 (by omega)).1, (e 1 (by omega)).2, (e 2 (by omega)).1, (e 4 (by omega)).1, (e 4 (by omega)).2, (e 5 (by omega)).1, (e 3 (by omega)).1, (e 3 (by omega)).2]
  exact h
theorem CI_eq (h : CI σ X P nm M H S tx er ea ou) (z : zeq σ τ X (X + 307)) : CI τ X P nm M H S tx er ea ou := by
  obtain ⟨w, q, G, ⟨a1, a2, a3, ⟨b1, b2, b3⟩, ⟨c1, c2⟩, a6, a7, a8, a9, a10⟩, hF, h0, hS, hH⟩ := h
  have e : ∀ o, o < 307 → τ.2.1 (X + o) = σ.2.1 (X + o) ∧ τ.2.2.1 (X + o) = σ.2.2.1 (X + o) := fun o ho => ⟨(z (X + o) (by omega) (by omega)).2.1, (z (X + o) (by omega) (by omega)).2.2.1⟩
  have e0 : τ.2.1 X = σ.2.1 X ∧ τ.2.2.1 X = σ.2.2.1 X := e 0 (by omega)
  refine ⟨w, q, G, ⟨csh_zeq a1 z, a2, by rw [e0.2]; exact a3, ⟨SU_eq b1 (zeq_sub z (by omega) (by omega)), SN_eq b2 (zeq_sub z (by omega) (by omega)), b3⟩, ⟨sush_eq c1 (zeq_sub z (by omega) (by omega)), sush_eq c2 (zeq_sub z (by omega) (by omega))⟩, by rw [e0.1]; exact a6, by rw [(e 119 (by omega)).1]; exact a7, by rw [(e 1 (by omega)).1, (e 2 (by omega)).1]; exact a8, by rw [(e 3 (by omega)).1]; exact a9, by rw [(e 4 (by omega)).1, (e 5 (by omega)).1]; exact a10⟩, FW_eq hF (fun i hi => zeq_sub z (by have := fpl_in (X := X) hi; omega) (by have := fpl_in (X := X) hi; omega)), h0, hS, hH⟩
end EQ9
