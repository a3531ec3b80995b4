/-! The reference's numbers and lists out of the flow. -/
def pS (M : qM) (k : Nat) : Int :=
  if k < 37 then M.1 k else if k < 43 then M.1 k - 1 else if k < 59 then M.1 (43 + (4 * ((k - 43) % 4) + (k - 43) / 4)) else if k < 67 then M.1 (59 + (4 * ((k - 59) % 2) + (k - 59) / 2)) else if k < 74 then M.1 k
  else if k < 90 then M.1 (74 + (4 * ((k - 74) % 4) + (k - 74) / 4)) else if k < 98 then M.1 (90 + (4 * ((k - 90) % 2) + (k - 90) / 2)) else M.1 k
def qen (P : qP) (c n : Nat) : Int := if c < 16 then ((n % 200 : Nat) : Int) else ((20000 * qkey P n + qres P n : Nat) : Int)
def qins (b : Int) (l : List Int) : List Int := if b = -1 then l else l.take b.toNat ++ (-1) :: l.drop b.toNat
def pR (P : qP) (M : qM) (c : Nat) : List Int := if c < 24 then qins (M.2.2 c) ((M.2.1 c).map (qen P c)) else (M.2.1 c).map (qen P (qch c))
def RM (A : Nat → Int32) (P : qP) (M : qM) : Prop := RA A (pS M) (pR P M)
section AD
variable {τ : zS} {s i k : Nat}
end AD
