theorem b8_zi : ∀ n : Nat, n < 128 → b8 (zi n) = zi n := by decide
section PO
variable {σ τ : zS} {X w b sz q : Nat} {P : qP} {M : qM} {H : List qM} {S : Option qM} {nm : Nat → List Int32} {tx ou o : List Int32} {er ea : Int} {V : Nat → Nat → Int32} {sv : Bool}
end PO
