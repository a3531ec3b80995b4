/-! A record is handled, a result is taken. -/
theorem qmv_S {P : qP} {g : Bool} {r x n k : Nat} {rest : List Nat} {M : qM} (h : k ≠ 37 + r) (h2 : k ≠ 17 + qkey P n) (h3 : k ≠ 33 + r) : (qmv P g r x n rest M).1 k = M.1 k := by
  unfold qmv
  dsimp only
  split
  · exact (qu_ne h3).trans ((qu_ne h2).trans (qu_ne h))
  · exact qu_ne h
theorem qmv_37 {P : qP} {g : Bool} {r x n : Nat} {rest : List Nat} {M : qM} (h : qkey P n < 16) : (qmv P g r x n rest M).1 (37 + r) = x + 1 := by
  unfold qmv
  dsimp only
  split
  · exact (qu_ne (by omega)).trans ((qu_ne (by omega)).trans (qu_at _ _ _))
  · exact qu_at _ _ _
theorem qmv_17 {P : qP} {g : Bool} {r x n : Nat} {rest : List Nat} {M : qM} (h : qkey P n < 16) : (qmv P g r x n rest M).1 (17 + qkey P n) = if r < 4 then M.1 (17 + qkey P n) + qval P n else M.1 (17 + qkey P n) := by
  unfold qmv
  dsimp only
  split
  · exact (qu_ne (by omega)).trans (qu_at _ _ _)
  · exact qu_ne (by omega)
theorem qmv_33 {P : qP} {g : Bool} {r x n : Nat} {rest : List Nat} {M : qM} : 0 ≤ M.1 (33 + r) → 0 ≤ (qmv P g r x n rest M).1 (33 + r) := by
  intro h
  unfold qmv
  dsimp only
  split
  · rw [qu_at]; omega
  · rw [qu_ne (by omega)]; exact h
theorem qmv_L {P : qP} {g : Bool} {r x n d : Nat} {rest : List Nat} {M : qM} (h : d ≠ 4 * r + x) (h2 : d ≠ 30 + (4 * r + x)) (h3 : d ≠ qdest P r n) : (qmv P g r x n rest M).2.1 d = M.2.1 d := (qu_ne h3).trans ((qu_ne h2).trans (qu_ne h))
theorem qmv_Ld {P : qP} {g : Bool} {r x n : Nat} {rest : List Nat} {M : qM} : (qmv P g r x n rest M).2.1 (qdest P r n) = M.2.1 (qdest P r n) ++ [n] := qu_at _ _ _
theorem qmv_Lc {P : qP} {g : Bool} {r x n : Nat} {rest : List Nat} {M : qM} (h : 4 * r + x ≠ qdest P r n) : (qmv P g r x n rest M).2.1 (4 * r + x) = rest := (qu_ne h).trans ((qu_ne (by omega)).trans (qu_at _ _ _))
theorem qmv_Lk {P : qP} {g : Bool} {r x n : Nat} {rest : List Nat} {M : qM} (h : 30 + (4 * r + x) ≠ qdest P r n) : (qmv P g r x n rest M).2.1 (30 + (4 * r + x)) = M.2.1 (30 + (4 * r + x)) ++ if g then [n] else [] := (qu_ne h).trans (qu_at _ _ _)
theorem qmv_B {P : qP} {g : Bool} {r x n d : Nat} {rest : List Nat} {M : qM} (h : d ≠ 4 * r + x) : (qmv P g r x n rest M).2.2 d = M.2.2 d := by
  unfold qmv
  dsimp only
  split
  · exact qu_ne h
  · rfl
theorem qmv_Bc {P : qP} {g : Bool} {r x n : Nat} {rest : List Nat} {M : qM} : (qmv P g r x n rest M).2.2 (4 * r + x) = if 0 < M.2.2 (4 * r + x) then M.2.2 (4 * r + x) - 1 else M.2.2 (4 * r + x) := by
  unfold qmv
  dsimp only
  split
  · exact qu_at _ _ _
  · rfl
