/-! What the reference does to its lists. -/
section RO
variable {σ : zS} {m : Nat} {A : Nat → Int32} {S : Nat → Int} {R : Nat → List Int}
theorem ra_S {x : Int} (i : Nat) (h : rsh σ m) (hA : RA A S R) (hx : x = i) (hi : i < 144) : zaI (rput σ m A) (m + 4) (zi x) = some (zi (S i)) := by
  rw [rd_A i h hx (by omega), hA.1 i hi]
theorem ra_len {x : Int} (c : Nat) (h : rsh σ m) (hA : RA A S R) (hx : x = rb c) (hc : c < 78) : zaI (rput σ m A) (m + 4) (zi x) = some (zi (R c).length) := by
  have := rb_in hc
  rw [rd_A (rb c) h hx (by omega), (hA.2 c hc).1]
theorem ra_el {x : Int} (c k : Nat) (h : rsh σ m) (hA : RA A S R) (hc : c < 78) (hk : k < (R c).length) (hx : x = rb c + 1 + k) : zaI (rput σ m A) (m + 4) (zi x) = some (zi ((R c).getD k 0)) := by
  have := rb_in hc
  have := (hA.2 c hc).2.1
  rw [rd_A (rb c + 1 + k) h (by omega) (by omega), (hA.2 c hc).2.2 k hk]
theorem ra_adds {x v : Int} (c : Nat) (h : rsh σ m) (hA : RA A S R) (hx : x = rb c) (hc : c < 78) (hl : (R c).length < rcap c) : ∃ B, fX10_adds (rput σ m A) m (zi x) (zi v) = some (rput σ m B) ∧ RA B S (qu R c (R c ++ [v])) := by
  have hb := rb_in hc
  have hA2 := hA.2 c hc
  refine ⟨qu (qu A (rb c) (zi ((R c).length + 1))) (rb c + 1 + (R c).length) (zi v), ?_, ?_⟩
  · unfold fX10_adds
    rw [rd_now h, Option.bind_some, Option.bind_some, ra_len c h hA hx hc, Option.bind_some, wr_A (rb c) h hx (by omega), Option.bind_some, rd_now h, Option.bind_some, Option.bind_some, rd_A (rb c) h hx (by omega), Option.bind_some, qu_at, zi_add, zi_add, wr_A (rb c + 1 + (R c).length) h (by omega) (by omega), Option.bind_some]
  · refine RA_L hA hc ⟨?_, ?_, fun i hi => ?_⟩ (fun k hk => ?_)
    · rw [qu_ne (by omega), qu_at, List.length_append]; rfl
    · rw [List.length_append]; exact hl
    · rw [List.length_append, List.length_singleton] at hi
      by_cases e : i = (R c).length
      · subst e
        rw [qu_at, List.getD_eq_getElem?_getD, List.getElem?_append_right (Nat.le_refl _), Nat.sub_self]
        rfl
      · rw [qu_ne (by omega), qu_ne (by omega), hA2.2.2 i (by omega), List.getD_eq_getElem?_getD, List.getD_eq_getElem?_getD, List.getElem?_append_left (by omega)]
    · have := hA2.2.1
      rw [qu_ne (by omega), qu_ne (by omega)]
theorem ra_at {x y : Int} (c k : Nat) (h : rsh σ m) (hA : RA A S R) (hx : x = rb c) (hc : c < 78) (hy : y = k) (hk : k < (R c).length) : fX10_at (rput σ m A) m (zi x) (zi y) = some (rput σ m A, zi ((R c).getD k 0)) := by
  unfold fX10_at
  rw [rd_now h, Option.bind_some, zi_add, zi_add, ra_el c k h hA hc hk (by omega), Option.bind_some]
theorem ra_empties {x : Int} (c : Nat) (h : rsh σ m) (hA : RA A S R) (hx : x = rb c) (hc : c < 78) : ∃ B, fX10_empties (rput σ m A) m (zi x) = some (rput σ m B) ∧ RA B S (qu R c []) := by
  have hb := rb_in hc
  refine ⟨qu A (rb c) (zi 0), ?_, ?_⟩
  · unfold fX10_empties
    rw [rd_now h, Option.bind_some, wr_A (rb c) h hx (by omega), Option.bind_some]
  · refine RA_L hA hc ⟨?_, ?_, fun i hi => ?_⟩ (fun k hk => ?_)
    · rw [qu_at]; rfl
    · exact Nat.zero_le _
    · cases hi
    · rw [qu_ne (by omega)]
theorem qu_same {α : Type} (f : Nat → α) (k : Nat) : qu f k (f k) = f := by
  funext j
  by_cases e : j = k
  · subst e; exact qu_at _ _ _
  · exact qu_ne e
theorem qu_qu {α : Type} (f : Nat → α) (k : Nat) (a b : α) : qu (qu f k a) k b = qu f k b := by
  funext j
  by_cases e : j = k
  · subst e; rw [qu_at, qu_at]
  · rw [qu_ne e, qu_ne e, qu_ne e]
theorem ra_addsAll {x y : Int} (c d : Nat) (h : rsh σ m) (hA : RA A S R) (hx : x = rb c) (hy : y = rb d) (hc : c < 78) (hd : d < 78) (hne : c ≠ d) (hl : (R d).length + (R c).length ≤ rcap d) : ∃ B, fX10_addsAll (rput σ m A) m (zi x) (zi y) = some (rput σ m B) ∧ RA B S (qu R d (R d ++ R c)) := by
  have hb := rb_in hc
  have hA2 := (hA.2 c hc).2.1
  have key := zloop_run (step := sX10_addsAll_2 m (zi x) (zi y)) (R c).length (fun i z => ∃ B, z = (rput σ m B, zi i) ∧ RA B S (qu R d (R d ++ (R c).take i))) (fun τ => ∃ B, τ = rput σ m B ∧ RA B S (qu R d (R d ++ R c))) (by
    rintro i z hi ⟨B, rfl, hB⟩
    refine Or.inl ?_
    have e1 : qu R d (R d ++ (R c).take i) c = R c := qu_ne hne
    obtain ⟨B2, e2, hB2⟩ := ra_adds (v := (R c).getD i 0) d h hB hy hd (by rw [qu_at, List.length_append, List.length_take]; omega)
    refine ⟨(rput σ m B2, zi i + zi 1), ?_, B2, by rw [zi_add]; rfl, ?_⟩
    · unfold sX10_addsAll_2 sX10_addsAll_2b
      dsimp only
      have hlen := ra_len c h hB hx hc
      rw [e1] at hlen
      have hat := ra_at c i h hB hx hc (y := i) rfl (by rw [e1]; exact hi)
      rw [e1] at hat
      rw [rd_now h, Option.bind_some, hlen, Option.bind_some, if_neg (by rw [zi_le (by omega) (by omega) (by omega) (by omega)]; omega), rd_ck h, hat, Option.bind_some, rd_ck h, e2, Option.bind_some]
    · rw [qu_at, qu_qu, List.append_assoc] at hB2
      have : (R c).take i ++ [(R c).getD i 0] = (R c).take (i + 1) := by
        rw [List.take_succ_eq_append_getElem hi, List.getD_eq_getElem?_getD, List.getElem?_eq_getElem hi]
        rfl
      rw [this] at hB2
      exact hB2) (by
    rintro z ⟨B, rfl, hB⟩
    refine ⟨rput σ m B, ?_, B, rfl, by rw [List.take_length] at hB; exact hB⟩
    unfold sX10_addsAll_2 sX10_addsAll_2b
    dsimp only
    have hlen := ra_len c h hB hx hc
    rw [show qu R d (R d ++ (R c).take (R c).length) c = R c from qu_ne hne] at hlen
    rw [rd_now h, Option.bind_some, hlen, Option.bind_some, if_pos (by rw [zi_le (by omega) (by omega) (by omega) (by omega)]; omega)]) (zfuel_lt (by omega)) (s := (rput σ m A, zi 0)) ⟨A, rfl, by rw [List.take_zero, List.append_nil, qu_same]; exact hA⟩
  obtain ⟨τ, e, B, rfl, hB⟩ := key
  refine ⟨B, ?_, hB⟩
  unfold fX10_addsAll
  rw [e, Option.bind_some]
theorem ra_becomes {x y : Int} (c d : Nat) (h : rsh σ m) (hA : RA A S R) (hx : x = rb c) (hy : y = rb d) (hc : c < 78) (hd : d < 78) (hne : c ≠ d) (hl : (R c).length ≤ rcap d) : ∃ B, fX10_becomes (rput σ m A) m (zi y) (zi x) = some (rput σ m B) ∧ RA B S (qu R d (R c)) := by
  obtain ⟨B, e1, hB⟩ := ra_empties d h hA hy hd
  have e3 : qu R d [] c = R c := qu_ne hne
  obtain ⟨B2, e2, hB2⟩ := ra_addsAll c d h hB hx hy hc hd hne (by rw [e3, qu_at]; simpa using hl)
  refine ⟨B2, ?_, ?_⟩
  · unfold fX10_becomes
    rw [rd_ck h, e1, Option.bind_some, rd_ck h, e2, Option.bind_some]
  · rw [e3, qu_at, qu_qu, List.nil_append] at hB2
    exact hB2
end RO
