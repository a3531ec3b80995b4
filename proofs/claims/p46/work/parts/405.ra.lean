section RL
variable {σ : zS} {m : Nat} {A : Nat → Int32} {S : Nat → Int} {R : Nat → List Int} {P : qP} {M : qM}
theorem zi_nle {a b : Int} (h1 : -2147483648 ≤ b) (h2 : a < 2147483648) (h : b < a) : ¬ zi a ≤ zi b := by
  rw [zi_le (by omega) (by omega) (by omega) (by omega)]; omega
theorem zi_yle {a b : Int} (h1 : -2147483648 ≤ a) (h2 : b < 2147483648) (h : a ≤ b) : zi a ≤ zi b := by
  rw [zi_le (by omega) (by omega) (by omega) (by omega)]; omega
end RL
