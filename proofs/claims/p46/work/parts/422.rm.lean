section RQq
variable {σ : zS} {m : Nat} {A : Nat → Int32} {P : qP} {M K : qM} {n : Nat}
def qmoved (a b : Nat) : Nat := (List.range 8).countP (fun g => !(g * a / 8 == g * b / 8))
theorem qres_L {c : Nat} (hc : c < 24) : (qrescale P n M).2.1 c = qpart P n (fun d => (qfail P M).2.1 (54 + d)) c := by
  unfold qrescale
  dsimp only
  rw [if_pos hc]
theorem qres_D {c : Nat} (hc : c < 24) : (qrescale P n M).2.1 (54 + c) = qpart P n (fun d => (qfail P M).2.1 (54 + d)) c := by
  unfold qrescale
  dsimp only
  rw [if_neg (by omega), if_pos (by omega), show 54 + c - 54 = c from by omega]
theorem qI_many (hI : qI P M) : M.1 1 = (qmany M : Int) := by
  unfold qmany
  have := hI.1.2.1.1
  omega
end RQq
