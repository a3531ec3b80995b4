/-! Rows are filled and copied; lists are cleared and copied. -/
def vw (V : Nat → Nat → Int32) (o : Nat) (g : Nat → Int32) : Nat → Nat → Int32 := fun p => if p = o then g else V p
theorem vw_at (V : Nat → Nat → Int32) (o : Nat) (g : Nat → Int32) : vw V o g o = g := if_pos rfl
theorem vw_ne {V : Nat → Nat → Int32} {o p : Nat} {g : Nat → Int32} (h : p ≠ o) : vw V o g p = V p := if_neg h
theorem vw_self (V : Nat → Nat → Int32) (o : Nat) : vw V o (V o) = V := by
  funext p
  by_cases e : p = o
  · subst e; exact vw_at _ _ _
  · exact vw_ne e
theorem vw_vs {V : Nat → Nat → Int32} {o j : Nat} {g : Nat → Int32} {x : Int32} : vs (vw V o g) o j x = vw V o (qu g j x) := by
  funext p
  by_cases e : p = o
  · subst e; rw [vs_in, vw_at, vw_at]
  · rw [vs_no e, vw_ne e, vw_ne e]
section CR
variable {σ : zS} {f b u : Nat} {V : Nat → Nat → Int32}
theorem c_fill {x : Int32} (o : Nat) (h : fsh σ f) (ho : o < 31) (hl : 0 < flen o) : fX9_fillRow (fput σ f V b u) (f + o) x = some (fput σ f (vw V o (fun j => if j < flen o then x else V o j)) b u) := by
  have h8 := flen_le o ho
  unfold fX9_fillRow
  obtain ⟨y, hy, hq⟩ := zloop_run (step := sX9_fillRow_2 (f + o) x) (s := (fput σ f V b u, zi 0)) (fuel := zfuel) (flen o) (fun i s => s = (fput σ f (vw V o (fun j => if j < i then x else V o j)) b u, zi (i : Int))) (fun y => y = fput σ f (vw V o (fun j => if j < flen o then x else V o j)) b u)
    (fun i s hi hs => by
      subst hs
      refine Or.inl ⟨(fput σ f (vw V o (fun j => if j < i + 1 then x else V o j)) b u, zi ((i + 1 : Nat) : Int)), ?_, rfl⟩
      unfold sX9_fillRow_2 sX9_fillRow_2b
      dsimp only
      rw [fa_len o h ho hl, Option.bind_some, if_neg (zi_nle (by omega) (by omega) (by omega)), fa_wr o i h ho rfl hi, Option.bind_some, zi_add, vw_vs]
      refine congrArg (fun g => some (Sum.inl (fput σ f (vw V o g) b u, zi ((i : Int) + 1)))) ?_
      funext j
      unfold qu
      dsimp only
      by_cases e : j = i
      · rw [if_pos e, if_pos (by omega)]
      · rw [if_neg e]
        by_cases e2 : j < i
        · rw [if_pos e2, if_pos (by omega)]
        · rw [if_neg e2, if_neg (by omega)])
    (fun s hs => by
      subst hs
      refine ⟨_, ?_, rfl⟩
      unfold sX9_fillRow_2 sX9_fillRow_2b
      dsimp only
      rw [fa_len o h ho hl, Option.bind_some, if_pos (by rw [zi_le (by omega) (by omega) (by omega) (by omega)]; omega)])
    (zfuel_lt (by omega)) (by
      refine Prod.ext ?_ rfl
      show fput σ f V b u = _
      rw [show (fun j => if j < 0 then x else V o j) = V o from by funext j; exact if_neg (by omega), vw_self])
  rw [hy, Option.bind_some, hq]
theorem c_copy {a : Nat} {g : Nat → Int32} (o : Nat) (h : fsh σ f) (ho : o < 31) (hl : 0 < flen o) (ha : σ.1 a = (1, flen o)) (hg : (fput σ f V b u).2.1 a = g) : fX9_copyRow (fput σ f V b u) a (f + o) = some (fput σ f (vw V o (fun j => if j < flen o then g j else V o j)) b u) := by
  have h8 := flen_le o ho
  have hs : (fput σ f V b u).1 (f + o) = (1, flen o) := h.2.2.2.1 o ho hl
  have ha2 : (fput σ f V b u).1 a = (1, flen o) := ha
  have hlen : zlen (fput σ f V b u) a = some (zi (flen o)) := by
    unfold zlen
    rw [if_neg (by rw [ha2]; omega), ha2]
    rfl
  unfold fX9_copyRow
  rw [hlen, Option.bind_some, fa_len o h ho hl, Option.bind_some, if_neg (by rw [zi_lt (by omega) (by omega) (by omega) (by omega)]; omega)]
  unfold zcI
  have hn : (zi (flen o : Int)).toNatClampNeg = flen o := (zi_nat (a := (flen o : Int)) (by omega) (by omega)).trans (Int.toNat_natCast _)
  rw [if_pos (by
    rw [ha2, hs]
    refine ⟨rfl, rfl, by decide, by decide, ?_, ?_, ?_⟩
    · show ¬ zi (flen o : Int) < zi 0
      rw [zi_lt (by omega) (by omega) (by omega) (by omega)]; omega
    · show 0 + (zi (flen o : Int)).toNatClampNeg ≤ flen o
      omega
    · show 0 + (zi (flen o : Int)).toNatClampNeg ≤ flen o
      omega), Option.bind_some, hn]
  refine congrArg some ?_
  unfold zcp
  refine Prod.ext rfl (Prod.ext ?_ rfl)
  funext p
  dsimp only
  by_cases e : p = f + o
  · subst e
    rw [if_pos rfl, fp_at ho, fp_at ho, vw_at, hg]
    funext j
    unfold va_cpy
    show (if 0 ≤ j ∧ j < 0 + flen o then g (0 + (j - 0)) else V o j) = _
    by_cases e2 : j < flen o
    · rw [if_pos (by omega), if_pos e2, Nat.zero_add, Nat.sub_zero]
    · rw [if_neg (by omega), if_neg e2]
  · rw [if_neg e]
    unfold fput
    dsimp only
    by_cases e2 : f ≤ p ∧ p < f + 31
    · rw [if_pos e2, if_pos e2, vw_ne (by omega)]
    · rw [if_neg e2, if_neg e2]
theorem c_clearAll {o : Nat} (h : fsh σ f) (ho : fo o) : ∃ W, fX3_clearAll (fput σ f V b u) (f + o) = some (fput σ f W b u) ∧ LL W o (fun _ => []) ∧ ∀ p, (p ≤ o + 1 ∨ o + 4 < p) → W p = V p := by
  unfold fX3_clearAll
  obtain ⟨y, hy, W, rfl, hq⟩ := zloop_run (step := sX3_clearAll_2 (f + o)) (s := (fput σ f V b u, zi 0)) (fuel := zfuel) 30
    (fun i s => ∃ W, s = (fput σ f W b u, zi (i : Int)) ∧ (∀ l, l < i → W (o + 2) l = zi (-1) ∧ W (o + 3) l = zi (-1) ∧ W (o + 4) l = zi 0) ∧ ∀ p, (p ≤ o + 1 ∨ o + 4 < p) → W p = V p)
    (fun y => ∃ W, y = fput σ f W b u ∧ (∀ l, l < 30 → W (o + 2) l = zi (-1) ∧ W (o + 3) l = zi (-1) ∧ W (o + 4) l = zi 0) ∧ ∀ p, (p ≤ o + 1 ∨ o + 4 < p) → W p = V p)
    (fun i s hi hs => by
      obtain ⟨W, rfl, h1, h2⟩ := hs
      refine Or.inl ⟨_, ?_, vs (vs (vs W (o + 2) i (zi (-1))) (o + 3) i (zi (-1))) (o + 4) i (zi 0), rfl, fun l hl => ?_, fun p hp => ?_⟩
      · unfold sX3_clearAll_2 sX3_clearAll_2b
        dsimp only
        rw [if_neg (zi_nle (by omega) (by omega) (by omega)), fc_3 h ho, c_clear_raw h ho hi, Option.bind_some, zi_add]
        rfl
      · by_cases e : l = i
        · subst e
          exact ⟨by rw [vs_ne (by omega), vs_ne (by omega), vs_at], by rw [vs_ne (by omega), vs_at], vs_at _ _ _ _⟩
        · rw [vs_ne (by omega), vs_ne (by omega), vs_ne (by omega), vs_ne (by omega), vs_ne (by omega), vs_ne (by omega), vs_ne (by omega), vs_ne (by omega), vs_ne (by omega)]
          exact h1 l (by omega)
      · rw [vs_no (by omega), vs_no (by omega), vs_no (by omega)]
        exact h2 p hp)
    (fun s hs => by
      obtain ⟨W, rfl, h1, h2⟩ := hs
      refine ⟨_, ?_, W, rfl, h1, h2⟩
      unfold sX3_clearAll_2 sX3_clearAll_2b
      dsimp only
      rw [if_pos (by rw [zi_le (by omega) (by omega) (by omega) (by omega)]; omega)])
    (zfuel_lt (by omega)) ⟨V, rfl, fun l hl => absurd hl (by omega), fun p _ => rfl⟩
  rw [hy, Option.bind_some]
  refine ⟨W, rfl, fun l hl => ?_, hq.2⟩
  obtain ⟨a1, a2, a3⟩ := hq.1 l hl
  exact ⟨a3, a1, a2, fun i hi => absurd hi (Nat.not_lt_zero _), fun n hn => absurd hn List.not_mem_nil, Nat.zero_le _⟩
end CR
