/-! Records and results come and go in the reference's lists. -/
section RV
variable {σ : zS} {m : Nat} {A : Nat → Int32} {S : Nat → Int} {R : Nat → List Int} {P : qP} {M : qM}
theorem zb_if {α : Type} (b : Bool) (x y : α) : (if zb b = zi 0 then x else y) = if b = true then y else x := by
  cases b
  · rfl
  · rw [if_neg (show ¬ zb true = zi 0 from by decide), if_pos rfl]
end RV
