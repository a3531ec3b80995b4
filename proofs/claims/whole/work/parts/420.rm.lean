/-! The reference is rescaled. -/
def xOwn (P : qP) (n i : Nat) (l : List Nat) : List Nat := l.filter (fun r => qown (qkey P r) n == i)
/-- what is kept so far, while what is done is dealt out: T by source, U by sink -/
def xSt (P : qP) (n : Nat) (K : qM) (T U : Nat → List Nat) : qM :=
  (K.1, (fun c => if 30 ≤ c ∧ c < 46 then xOwn P n ((c - 30) / 4) (T ((c - 30) % 4)) else if 46 ≤ c ∧ c < 54 then xOwn P n ((c - 30) % 4) (U ((c - 30) / 4 - 4)) else K.2.1 c), K.2.2)
theorem xOwn_app {P : qP} {n i : Nat} (a b : List Nat) : xOwn P n i (a ++ b) = xOwn P n i a ++ xOwn P n i b := List.filter_append ..
theorem xOwn_1 {P : qP} {n i r : Nat} (h : qown (qkey P r) n = i) : xOwn P n i [r] = [r] := by simp [xOwn, h]
theorem xOwn_0 {P : qP} {n i r : Nat} (h : qown (qkey P r) n ≠ i) : xOwn P n i [r] = [] := by simp [xOwn, h]
section XS
variable {P : qP} {n : Nat} {K : qM} {T U : Nat → List Nat}
theorem xSt_i {s i : Nat} (hs : s < 4) (hi : i < 4) : (xSt P n K T U).2.1 (30 + (4 * i + s)) = xOwn P n i (T s) := by
  unfold xSt
  dsimp only
  rw [if_pos (by omega), show (30 + (4 * i + s) - 30) / 4 = i from by omega, show (30 + (4 * i + s) - 30) % 4 = s from by omega]
theorem xSt_o {k i : Nat} (hk : k < 2) (hi : i < 4) : (xSt P n K T U).2.1 (30 + (4 * (4 + k) + i)) = xOwn P n i (U k) := by
  unfold xSt
  dsimp only
  rw [if_neg (by omega), if_pos (by omega), show (30 + (4 * (4 + k) + i) - 30) % 4 = i from by omega, show (30 + (4 * (4 + k) + i) - 30) / 4 - 4 = k from by omega]
theorem xSt_n {c : Nat} (h : c < 30 ∨ 54 ≤ c) : (xSt P n K T U).2.1 c = K.2.1 c := by
  unfold xSt
  dsimp only
  rw [if_neg (by omega), if_neg (by omega)]
/-- the next record of a source -/
theorem xSt_addi {s r : Nat} (hs : s < 4) (ho : qown (qkey P r) n < 4) : ∀ c, c < 78 → (xSt P n K (qu T s (T s ++ [r])) U).2.1 c = qu (xSt P n K T U).2.1 (30 + (4 * qown (qkey P r) n + s)) ((xSt P n K T U).2.1 (30 + (4 * qown (qkey P r) n + s)) ++ [r]) c := by
  intro c hc
  by_cases e : c = 30 + (4 * qown (qkey P r) n + s)
  · subst e
    rw [qu_at, xSt_i hs ho, xSt_i hs ho, qu_at, xOwn_app, xOwn_1 rfl]
  · rw [qu_ne e]
    by_cases h1 : 30 ≤ c ∧ c < 46
    · obtain ⟨i, t, hi, ht, rfl⟩ : ∃ i t, i < 4 ∧ t < 4 ∧ c = 30 + (4 * i + t) := ⟨(c - 30) / 4, (c - 30) % 4, by omega, by omega, by omega⟩
      rw [xSt_i ht hi, xSt_i ht hi]
      by_cases e2 : t = s
      · subst e2
        rw [qu_at, xOwn_app, xOwn_0 (fun q => e (by rw [q])), List.append_nil]
      · rw [qu_ne e2]
    · unfold xSt
      dsimp only
      rw [if_neg h1, if_neg h1]
theorem xSt_addo {k r : Nat} (hk : k < 2) (ho : qown (qkey P r) n < 4) : ∀ c, c < 78 → (xSt P n K T (qu U k (U k ++ [r]))).2.1 c = qu (xSt P n K T U).2.1 (30 + (4 * (4 + k) + qown (qkey P r) n)) ((xSt P n K T U).2.1 (30 + (4 * (4 + k) + qown (qkey P r) n)) ++ [r]) c := by
  intro c hc
  by_cases e : c = 30 + (4 * (4 + k) + qown (qkey P r) n)
  · subst e
    rw [qu_at, xSt_o hk ho, xSt_o hk ho, qu_at, xOwn_app, xOwn_1 rfl]
  · rw [qu_ne e]
    by_cases h1 : 46 ≤ c ∧ c < 54
    · obtain ⟨i, t, hi, ht, rfl⟩ : ∃ i t, i < 4 ∧ t < 2 ∧ c = 30 + (4 * (4 + t) + i) := ⟨(c - 30) % 4, (c - 30) / 4 - 4, by omega, by omega, by omega⟩
      rw [xSt_o ht hi, xSt_o ht hi]
      by_cases e2 : t = k
      · subst e2
        rw [qu_at, xOwn_app, xOwn_0 (fun q => e (by rw [q])), List.append_nil]
      · rw [qu_ne e2]
    · unfold xSt
      dsimp only
      rw [if_neg h1, if_neg h1]
end XS
/-- what a source's channels, a sink's channels hold in all, up to a worker and a place -/
def xAll (D : Nat → List Nat) (i k : Nat) : List Nat := (List.range i).flatMap D ++ (D i).take k
theorem xAll_0 (D : Nat → List Nat) : xAll D 0 0 = [] := rfl
theorem xAll_end (D : Nat → List Nat) (i : Nat) : xAll D i (D i).length = xAll D (i + 1) 0 := by
  unfold xAll
  rw [List.take_length, List.range_succ, List.flatMap_append, List.take_zero, List.append_nil]
  simp
theorem xAll_step {D : Nat → List Nat} {i k : Nat} (h : k < (D i).length) : xAll D i (k + 1) = xAll D i k ++ [(D i)[k]] := by
  unfold xAll
  rw [List.take_succ_eq_append_getElem h, List.append_assoc]
theorem xAll_pre {D : Nat → List Nat} {i k : Nat} (hi : i < 4) (h : k < (D i).length) : ∃ w, xAll D 4 0 = xAll D i k ++ (D i)[k] :: w := by
  have e1 : (List.range 4).flatMap D = (List.range i).flatMap D ++ ((D i) ++ ((List.range' (i + 1) (3 - i)).flatMap D)) := by
    have e2 : List.range 4 = List.range i ++ i :: List.range' (i + 1) (3 - i) := by
      have := List.range'_append_1 (s := 0) (m := i) (n := 4 - i)
      rw [Nat.zero_add, show i + (4 - i) = 4 from by omega, show 4 - i = (3 - i) + 1 from by omega, List.range'_succ] at this
      rw [List.range_eq_range', ← this, List.range_eq_range']
    rw [e2, List.flatMap_append, List.flatMap_cons]
  refine ⟨(D i).drop (k + 1) ++ (List.range' (i + 1) (3 - i)).flatMap D, ?_⟩
  unfold xAll
  rw [List.take_zero, List.append_nil, e1, List.append_assoc]
  congr 1
  rw [← List.cons_append, ← List.append_assoc]
  congr 1
  rw [← List.drop_eq_getElem_cons h, List.take_append_drop]
theorem xOwn_room {P : qP} {n i : Nat} {a b w : List Nat} {r : Nat} (h : b = a ++ r :: w) (ho : qown (qkey P r) n = i) : (xOwn P n i a).length < (xOwn P n i b).length := by
  rw [h, show a ++ r :: w = a ++ ([r] ++ w) from rfl, xOwn_app, xOwn_app, xOwn_1 ho]
  simp only [List.length_append, List.length_singleton]
  omega
