/-! Barriers in the reference's lists. -/
section RB
variable {σ : zS} {m : Nat} {A : Nat → Int32} {S : Nat → Int} {R : Nat → List Int} {P : qP} {M : qM}
/-- where the first barrier of a list stands -/
def rfirst (l : List Int) (b : Int) : Prop := b = -1 ∧ (∀ i, i < l.length → l.getD i 0 ≠ -1) ∨ ∃ j : Nat, b = j ∧ j < l.length ∧ l.getD j 0 = -1 ∧ ∀ i, i < j → l.getD i 0 ≠ -1
theorem ra_barrierIn {x b : Int} (c : Nat) (h : rsh σ m) (hA : RA A S R) (hx : x = rb c) (hc : c < 78) (ho : rok (R c)) (hb : rfirst (R c) b) : fX10_barrierIn (rput σ m A) m (zi x) = some (rput σ m A, zi b) := by
  have hbb := rb_in hc
  have hl := (hA.2 c hc).2.1
  have st : ∀ i, i < (R c).length → sX10_barrierIn_2 m (zi x) (rput σ m A, zi (i : Int)) = if (R c).getD i 0 = -1 then some (.inr (.inl (rput σ m A, zi (i : Int)))) else some (.inl (rput σ m A, zi (i : Int) + zi 1)) := by
    intro i hi
    have hg := rok_get ho hi
    unfold sX10_barrierIn_2 sX10_barrierIn_2b
    dsimp only
    rw [rd_now h, Option.bind_some, ra_len c h hA hx hc, Option.bind_some, if_neg (zi_nle (by omega) (by omega) (by omega)), rd_ck h, ra_at c i h hA hx hc rfl hi, Option.bind_some]
    dsimp only
    by_cases e : (R c).getD i 0 = -1
    · rw [if_pos e, if_pos (by rw [e])]
    · rw [if_neg e, if_neg (by rw [zi_m1 (by omega) hg.2]; exact e)]
  have ste : sX10_barrierIn_2 m (zi x) (rput σ m A, zi ((R c).length : Int)) = some (.inr (.inr (rput σ m A))) := by
    unfold sX10_barrierIn_2 sX10_barrierIn_2b
    dsimp only
    rw [rd_now h, Option.bind_some, ra_len c h hA hx hc, Option.bind_some, if_pos (zi_yle (by omega) (by omega) (by omega))]
  have key : ∃ o, zloop (sX10_barrierIn_2 m (zi x)) zfuel (rput σ m A, zi 0) = some o ∧ (match o with | (.inl z7) => some (z7.1, z7.2) | (.inr z8) => some (z8, (zi (-1)))) = some (rput σ m A, zi b) := by
    rcases hb with ⟨rfl, hn⟩ | ⟨j, rfl, hj, hj2, hn⟩
    · refine zloop_run (R c).length (fun i z => z = (rput σ m A, zi (i : Int))) _ ?_ ?_ (zfuel_lt (by omega)) rfl
      · rintro i z hi rfl
        exact Or.inl ⟨_, by rw [st i hi, if_neg (hn i hi)], by rw [zi_add]; rfl⟩
      · rintro z rfl
        exact ⟨_, ste, rfl⟩
    · refine zloop_run j (fun i z => z = (rput σ m A, zi (i : Int))) _ ?_ ?_ (zfuel_lt (by omega)) rfl
      · rintro i z hi rfl
        exact Or.inl ⟨_, by rw [st i (by omega), if_neg (hn i hi)], by rw [zi_add]; rfl⟩
      · rintro z rfl
        exact ⟨_, by rw [st j hj, if_pos hj2], rfl⟩
  obtain ⟨o, e, ho2⟩ := key
  unfold fX10_barrierIn
  rw [e, Option.bind_some]
  exact ho2
theorem getD_erase {l : List Int} {k i : Nat} : (l.eraseIdx k).getD i 0 = if i < k then l.getD i 0 else l.getD (i + 1) 0 := by
  rw [List.getD_eq_getElem?_getD, List.getElem?_eraseIdx]
  split
  · rw [List.getD_eq_getElem?_getD]
  · rw [List.getD_eq_getElem?_getD]
theorem ra_removes {x y : Int} (c k : Nat) (h : rsh σ m) (hA : RA A S R) (hx : x = rb c) (hc : c < 78) (hy : y = k) (hk : k < (R c).length) : ∃ B, fX10_removes (rput σ m A) m (zi x) (zi y) = some (rput σ m B) ∧ RA B S (qu R c ((R c).eraseIdx k)) := by
  have hb := rb_in hc
  obtain ⟨hA1, hl, hA3⟩ := hA.2 c hc
  have hlen : ((R c).eraseIdx k).length = (R c).length - 1 := by rw [List.length_eraseIdx, if_pos hk]
  obtain ⟨B, e, hB1, hB2, -, hB4⟩ := rfor (σ := σ) (m := m) (step := sX10_removes_16 m (zi x)) k ((R c).length - 1) (fun i B => B (rb c) = zi (((R c).length : Int) - 1) ∧ (∀ j, j < i → B (rb c + 1 + j) = zi (((R c).eraseIdx k).getD j 0)) ∧ (∀ j, i ≤ j → j < (R c).length → B (rb c + 1 + j) = zi ((R c).getD j 0)) ∧ ∀ q, (q < rb c ∨ rb c + rcap c < q) → B q = A q) (fun i B hki hi hB => by
    obtain ⟨h1, h2, h3, h4⟩ := hB
    refine ⟨qu B (rb c + 1 + i) (B (rb c + 1 + (i + 1))), ?_, ?_, fun j hj => ?_, fun j hj hj2 => ?_, fun q hq => ?_⟩
    · unfold sX10_removes_16 sX10_removes_16b
      dsimp only
      rw [rd_now h, Option.bind_some, rd_A (rb c) h hx (by omega), Option.bind_some, h1, if_neg (zi_nle (by omega) (by omega) (by omega)), Option.bind_some, Option.bind_some, zi_add, zi_add, rd_A (rb c + 1 + (i + 1)) h (by omega) (by omega), Option.bind_some, zi_add, zi_add, wr_A (rb c + 1 + i) h (by omega) (by omega), Option.bind_some, zi_add]
    · rw [qu_ne (by omega)]; exact h1
    · by_cases e : j = i
      · subst e
        rw [qu_at, h3 _ (by omega) (by omega), getD_erase, if_neg (by omega)]
      · rw [qu_ne (by omega)]; exact h2 j (by omega)
    · rw [qu_ne (by omega)]; exact h3 j (by omega) hj2
    · rw [qu_ne (by omega)]; exact h4 q hq) (fun B hB => by
    unfold sX10_removes_16 sX10_removes_16b
    dsimp only
    rw [rd_now h, Option.bind_some, rd_A (rb c) h hx (by omega), Option.bind_some, hB.1, if_pos (zi_yle (by omega) (by omega) (by omega))]) (by omega) (by omega) (x := y) hy (A := qu A (rb c) (zi (((R c).length : Int) - 1))) ⟨qu_at _ _ _, fun j hj => by
      rw [qu_ne (by omega), hA3 j (by omega), getD_erase, if_pos hj], fun j _ hj2 => by rw [qu_ne (by omega)]; exact hA3 j hj2, fun q hq => by rw [qu_ne (by omega)]⟩
  refine ⟨B, ?_, ?_⟩
  · unfold fX10_removes
    rw [rd_now h, Option.bind_some, Option.bind_some, rd_A (rb c) h hx (by omega), hA1, Option.bind_some, zi_sub, wr_A (rb c) h hx (by omega), Option.bind_some, e, Option.bind_some]
  · refine RA_L hA hc ⟨?_, by omega, fun i hi => hB2 i (by omega)⟩ hB4
    rw [hB1, hlen]
    congr 1
    omega
/-- what stands before the barrier is kept, the barrier goes -/
theorem ra_keepsAhead {x y : Int} (c d j : Nat) (h : rsh σ m) (hA : RA A S R) (hx : x = rb c) (hy : y = rb d) (hc : c < 78) (hd : d < 78) (hne : c ≠ d) (ho : rok (R c)) (hb : rfirst (R c) j) (hj : j < (R c).length) (hl : (R d).length + j ≤ rcap d) : ∃ B, fX10_keepsAhead (rput σ m A) m (zi x) (zi y) = some (rput σ m B) ∧ RA B S (qu (qu R d (R d ++ (R c).take j)) c ((R c).eraseIdx j)) := by
  have hbb := rb_in hc
  have hlc := (hA.2 c hc).2.1
  obtain ⟨B, e, hB⟩ := rfor (σ := σ) (m := m) (step := sX10_keepsAhead_9 m (zi x) (zi y) (zi (j : Int))) 0 j (fun i B => RA B S (qu R d (R d ++ (R c).take i))) (fun i B _ hi hB => by
    have e1 : qu R d (R d ++ (R c).take i) c = R c := qu_ne hne
    obtain ⟨B2, e2, hB2⟩ := ra_adds (v := (R c).getD i 0) d h hB hy hd (by rw [qu_at, List.length_append, List.length_take]; omega)
    refine ⟨B2, ?_, ?_⟩
    · have hat := ra_at c i h hB hx hc (y := i) rfl (by rw [e1]; omega)
      rw [e1] at hat
      unfold sX10_keepsAhead_9 sX10_keepsAhead_9b
      dsimp only
      rw [if_neg (zi_nle (by omega) (by omega) (by omega)), rd_ck h, hat, Option.bind_some, rd_ck h, e2, Option.bind_some]
    · rw [qu_at, qu_qu, List.append_assoc, ← take_getD (by omega)] at hB2
      exact hB2) (fun B _ => by
    unfold sX10_keepsAhead_9 sX10_keepsAhead_9b
    dsimp only
    rw [if_pos (zi_yle (by omega) (by omega) (by omega))]) (by omega) (by omega) (x := 0) rfl (A := A) (by rw [List.take_zero, List.append_nil, qu_same]; exact hA)
  have e1 : qu R d (R d ++ (R c).take j) c = R c := qu_ne hne
  obtain ⟨C, e2, hC⟩ := ra_removes c j h hB hx hc (y := j) rfl (by rw [e1]; exact hj)
  rw [e1] at hC
  refine ⟨C, ?_, hC⟩
  unfold fX10_keepsAhead
  rw [rd_ck h, ra_barrierIn c h hA hx hc ho hb, Option.bind_some, e, Option.bind_some, rd_ck h, e2, Option.bind_some]
end RB
