/-! The reference's queries. -/
section RQ
variable {σ : zS} {m : Nat} {P : qP} {M : qM}
theorem zt : ¬ zb true = zi 0 := by decide
theorem zf : zb false = zi 0 := rfl
theorem z10 : ¬ zi 1 = zi 0 := by decide
end RQ
