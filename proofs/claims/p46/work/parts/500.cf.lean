/-! THE CLASS'S FLOW. f: its address; a block of 31 cells: 0 the flow, 1 lags, 2 positions, 3 sums, 4 handled, 5 blocked, 6 lists (7 next, 8 first, 9 last, 10 size), 11 and 20 checkpoints (12 arrived, 13 positions, 14 sums, 15 kept with 16 to 19), 29 turns, 30 barriers. V: what its cells hold; b: which of the two is in progress; u: the setup's address. -/
def flen (o : Nat) : Nat :=
  if o = 1 ∨ o = 2 ∨ o = 4 ∨ o = 13 ∨ o = 22 then 4 else if o = 3 ∨ o = 14 ∨ o = 23 then 16 else if o = 5 ∨ o = 12 ∨ o = 21 ∨ o = 29 then 6 else if o = 7 ∨ o = 16 ∨ o = 25 then 800
  else if o = 8 ∨ o = 9 ∨ o = 10 ∨ o = 17 ∨ o = 18 ∨ o = 19 ∨ o = 26 ∨ o = 27 ∨ o = 28 then 30 else if o = 30 then 24 else 0
theorem flen_le : ∀ o, o < 31 → flen o ≤ 800 := by decide
def fput (σ : zS) (f : Nat) (V : Nat → Nat → Int32) (b u : Nat) : zS :=
  (σ.1, (fun a => if f ≤ a ∧ a < f + 31 then V (a - f) else σ.2.1 a), (fun a j => if a = f then (if j = 15 then some (f + b) else if j = 16 then some (f + (31 - b)) else if j = 17 then some u else σ.2.2.1 a j) else σ.2.2.1 a j), σ.2.2.2)
def fsh (σ : zS) (f : Nat) : Prop :=
  (σ.1 f).1 = 6 ∧ ((σ.1 (f + 11)).1 = 5 ∧ (σ.1 (f + 20)).1 = 5) ∧ ((σ.1 (f + 6)).1 = 8 ∧ (σ.1 (f + 15)).1 = 8 ∧ (σ.1 (f + 24)).1 = 8) ∧ (∀ o, o < 31 → 0 < flen o → σ.1 (f + o) = (1, flen o)) ∧
  (σ.2.2.1 f 9 = some (f + 1) ∧ σ.2.2.1 f 10 = some (f + 2) ∧ σ.2.2.1 f 11 = some (f + 3) ∧ σ.2.2.1 f 12 = some (f + 4) ∧ σ.2.2.1 f 13 = some (f + 5) ∧ σ.2.2.1 f 14 = some (f + 6) ∧ σ.2.2.1 f 18 = some (f + 29) ∧ σ.2.2.1 f 19 = some (f + 30)) ∧
  (∀ x, x = 11 ∨ x = 20 → σ.2.2.1 (f + x) 7 = some (f + (x + 1)) ∧ σ.2.2.1 (f + x) 8 = some (f + (x + 2)) ∧ σ.2.2.1 (f + x) 9 = some (f + (x + 3)) ∧ σ.2.2.1 (f + x) 10 = some (f + (x + 4))) ∧
  ∀ o j, (o = 6 ∨ o = 15 ∨ o = 24) → j < 4 → σ.2.2.1 (f + o) j = some (f + (o + 1 + j))
def vs (V : Nat → Nat → Int32) (o j : Nat) (v : Int32) : Nat → Nat → Int32 := fun p i => if p = o ∧ i = j then v else V p i
theorem vs_at (V : Nat → Nat → Int32) (o j : Nat) (v : Int32) : vs V o j v o j = v := if_pos ⟨rfl, rfl⟩
theorem vs_ne {V : Nat → Nat → Int32} {o j p i : Nat} {v : Int32} (h : p ≠ o ∨ i ≠ j) : vs V o j v p i = V p i := if_neg (by omega)
theorem vs_no {V : Nat → Nat → Int32} {o j p : Nat} {v : Int32} (h : p ≠ o) : vs V o j v p = V p := by
  funext i
  exact vs_ne (Or.inl h)
theorem vs_in {V : Nat → Nat → Int32} {o j : Nat} {v : Int32} : vs V o j v o = qu (V o) j v := by
  funext i
  unfold vs qu
  by_cases e : i = j
  · rw [if_pos ⟨rfl, e⟩, if_pos e]
  · rw [if_neg (fun q => e q.2), if_neg e]
section CF
variable {σ : zS} {f b u : Nat} {V : Nat → Nat → Int32}
theorem fp_at {o : Nat} (h : o < 31) : (fput σ f V b u).2.1 (f + o) = V o := by
  unfold fput
  dsimp only
  rw [if_pos (by omega), show f + o - f = o from by omega]
theorem fp_0 : (fput σ f V b u).2.1 f = V 0 := fp_at (o := 0) (by omega)
theorem fp_ne {a : Nat} (h : a < f ∨ f + 31 ≤ a) : (fput σ f V b u).2.1 a = σ.2.1 a := if_neg (by omega)
theorem fp_upd {o j : Nat} {v : Int32} (h : o < 31) : zuI (fput σ f V b u) (f + o) j v = fput σ f (vs V o j v) b u := by
  unfold zuI fput
  refine Prod.ext rfl (Prod.ext ?_ rfl)
  funext a i
  dsimp only
  unfold zu vs
  dsimp only
  by_cases e : a = f + o
  · subst e
    rw [if_pos (show f ≤ f + o ∧ f + o < f + 31 from by omega), if_pos (show f ≤ f + o ∧ f + o < f + 31 from by omega), show f + o - f = o from by omega]
    by_cases e2 : i = j
    · rw [if_pos ⟨rfl, e2⟩, if_pos ⟨rfl, e2⟩]
    · rw [if_neg (fun q => e2 q.2), if_neg (fun q => e2 q.2)]
  · rw [if_neg (fun q => e q.1)]
    by_cases e2 : f ≤ a ∧ a < f + 31
    · rw [if_pos e2, if_pos e2, if_neg (by omega)]
    · rw [if_neg e2, if_neg e2]
theorem fp_upd0 {j : Nat} {v : Int32} : zuI (fput σ f V b u) f j v = fput σ f (vs V 0 j v) b u := fp_upd (o := 0) (by omega)
-- the flow's own fields
theorem fg_i {j : Nat} (h : fsh σ f) : zgI 1 j (fput σ f V b u) f = some (V 0 j) := by
  unfold zgI
  rw [if_pos (show ((fput σ f V b u).1 f).1 = 1 + 5 from h.1), fp_0]
theorem fp_i {j : Nat} {v : Int32} (h : fsh σ f) : zpI 1 j (fput σ f V b u) f v = some (fput σ f (vs V 0 j v) b u) := by
  unfold zpI
  rw [if_pos (show ((fput σ f V b u).1 f).1 = 1 + 5 from h.1), fp_upd0]
theorem fp_z {j : Nat} {v : Int32} (h : fsh σ f) (hv : v = zi 0 ∨ v = zi 1) : zpZ 1 j (fput σ f V b u) f v = some (fput σ f (vs V 0 j v) b u) := by
  unfold zpZ
  rw [if_pos ⟨h.1, hv⟩, fp_upd0]
theorem fc_1 {α : Type} {o : Option α} (h : fsh σ f) : zck 1 (fput σ f V b u) f o = o := if_pos (show (σ.1 f).1 = 1 + 5 from h.1)
theorem fr_at {k j a : Nat} {r : Nat} (hk : (σ.1 a).1 = k + 5) (hr : (fput σ f V b u).2.2.1 a j = some r) : zgR k j (fput σ f V b u) a = some r := by
  unfold zgR
  rw [if_pos (show ((fput σ f V b u).1 a).1 = k + 5 from hk)]
  exact hr
theorem fr_own {j : Nat} (h : j ≠ 15 ∧ j ≠ 16 ∧ j ≠ 17) : (fput σ f V b u).2.2.1 f j = σ.2.2.1 f j := by
  unfold fput
  dsimp only
  rw [if_pos rfl, if_neg h.1, if_neg h.2.1, if_neg h.2.2]
theorem fr_oth {a j : Nat} (h : a ≠ f) : (fput σ f V b u).2.2.1 a j = σ.2.2.1 a j := if_neg h
theorem fr_9 (h : fsh σ f) : zgR 1 9 (fput σ f V b u) f = some (f + 1) := fr_at h.1 ((fr_own (by decide)).trans h.2.2.2.2.1.1)
theorem fr_10 (h : fsh σ f) : zgR 1 10 (fput σ f V b u) f = some (f + 2) := fr_at h.1 ((fr_own (by decide)).trans h.2.2.2.2.1.2.1)
theorem fr_11 (h : fsh σ f) : zgR 1 11 (fput σ f V b u) f = some (f + 3) := fr_at h.1 ((fr_own (by decide)).trans h.2.2.2.2.1.2.2.1)
theorem fr_12 (h : fsh σ f) : zgR 1 12 (fput σ f V b u) f = some (f + 4) := fr_at h.1 ((fr_own (by decide)).trans h.2.2.2.2.1.2.2.2.1)
theorem fr_13 (h : fsh σ f) : zgR 1 13 (fput σ f V b u) f = some (f + 5) := fr_at h.1 ((fr_own (by decide)).trans h.2.2.2.2.1.2.2.2.2.1)
theorem fr_14 (h : fsh σ f) : zgR 1 14 (fput σ f V b u) f = some (f + 6) := fr_at h.1 ((fr_own (by decide)).trans h.2.2.2.2.1.2.2.2.2.2.1)
theorem fr_18 (h : fsh σ f) : zgR 1 18 (fput σ f V b u) f = some (f + 29) := fr_at h.1 ((fr_own (by decide)).trans h.2.2.2.2.1.2.2.2.2.2.2.1)
theorem fr_19 (h : fsh σ f) : zgR 1 19 (fput σ f V b u) f = some (f + 30) := fr_at h.1 ((fr_own (by decide)).trans h.2.2.2.2.1.2.2.2.2.2.2.2)
theorem fr_15 (h : fsh σ f) : zgR 1 15 (fput σ f V b u) f = some (f + b) := fr_at h.1 (by unfold fput; dsimp only; rw [if_pos rfl, if_pos rfl])
theorem fr_16 (h : fsh σ f) : zgR 1 16 (fput σ f V b u) f = some (f + (31 - b)) := fr_at h.1 (by unfold fput; dsimp only; rw [if_pos rfl, if_neg (by decide), if_pos rfl])
theorem fr_17 (h : fsh σ f) : zgR 1 17 (fput σ f V b u) f = some u := fr_at h.1 (by unfold fput; dsimp only; rw [if_pos rfl, if_neg (by decide), if_neg (by decide), if_pos rfl])
/-- a checkpoint's place -/
def fx (x : Nat) : Prop := x = 11 ∨ x = 20
theorem fk_0 {x : Nat} (h : fsh σ f) (hx : fx x) : (σ.1 (f + x)).1 = 5 := by
  rcases hx with rfl | rfl
  · exact h.2.1.1
  · exact h.2.1.2
theorem cg_i {x j : Nat} (h : fsh σ f) (hx : fx x) : zgI 0 j (fput σ f V b u) (f + x) = some (V x j) := by
  unfold zgI
  rw [if_pos (show ((fput σ f V b u).1 (f + x)).1 = 0 + 5 from fk_0 (σ := σ) h hx), fp_at (by rcases hx with rfl | rfl <;> omega)]
theorem cp_i {x j : Nat} {v : Int32} (h : fsh σ f) (hx : fx x) : zpI 0 j (fput σ f V b u) (f + x) v = some (fput σ f (vs V x j v) b u) := by
  unfold zpI
  rw [if_pos (show ((fput σ f V b u).1 (f + x)).1 = 0 + 5 from fk_0 (σ := σ) h hx), fp_upd (by rcases hx with rfl | rfl <;> omega)]
theorem cp_z {x j : Nat} {v : Int32} (h : fsh σ f) (hx : fx x) (hv : v = zi 0 ∨ v = zi 1) : zpZ 0 j (fput σ f V b u) (f + x) v = some (fput σ f (vs V x j v) b u) := by
  unfold zpZ
  rw [if_pos ⟨fk_0 (σ := σ) h hx, hv⟩, fp_upd (by rcases hx with rfl | rfl <;> omega)]
theorem fc_0 {α : Type} {x : Nat} {o : Option α} (h : fsh σ f) (hx : fx x) : zck 0 (fput σ f V b u) (f + x) o = o := if_pos (fk_0 (σ := σ) h hx)
theorem cr_7 {x : Nat} (h : fsh σ f) (hx : fx x) : zgR 0 7 (fput σ f V b u) (f + x) = some (f + (x + 1)) := fr_at (fk_0 h hx) ((fr_oth (by rcases hx with rfl | rfl <;> omega)).trans (h.2.2.2.2.2.1 x hx).1)
theorem cr_8 {x : Nat} (h : fsh σ f) (hx : fx x) : zgR 0 8 (fput σ f V b u) (f + x) = some (f + (x + 2)) := fr_at (fk_0 h hx) ((fr_oth (by rcases hx with rfl | rfl <;> omega)).trans (h.2.2.2.2.2.1 x hx).2.1)
theorem cr_9 {x : Nat} (h : fsh σ f) (hx : fx x) : zgR 0 9 (fput σ f V b u) (f + x) = some (f + (x + 3)) := fr_at (fk_0 h hx) ((fr_oth (by rcases hx with rfl | rfl <;> omega)).trans (h.2.2.2.2.2.1 x hx).2.2.1)
theorem cr_10 {x : Nat} (h : fsh σ f) (hx : fx x) : zgR 0 10 (fput σ f V b u) (f + x) = some (f + (x + 4)) := fr_at (fk_0 h hx) ((fr_oth (by rcases hx with rfl | rfl <;> omega)).trans (h.2.2.2.2.2.1 x hx).2.2.2)
/-- a place of lists -/
def fo (o : Nat) : Prop := o = 6 ∨ o = 15 ∨ o = 24
theorem fx_o {x : Nat} (h : fx x) : fo (x + 4) := by rcases h with rfl | rfl <;> unfold fo <;> omega
theorem fk_3 {o : Nat} (h : fsh σ f) (ho : fo o) : (σ.1 (f + o)).1 = 8 := by
  rcases ho with rfl | rfl | rfl
  · exact h.2.2.1.1
  · exact h.2.2.1.2.1
  · exact h.2.2.1.2.2
theorem fc_3 {α : Type} {o : Nat} {q : Option α} (h : fsh σ f) (ho : fo o) : zck 3 (fput σ f V b u) (f + o) q = q := if_pos (fk_3 (σ := σ) h ho)
theorem lr {o : Nat} (j : Nat) (h : fsh σ f) (ho : fo o) (hj : j < 4) : zgR 3 j (fput σ f V b u) (f + o) = some (f + (o + 1 + j)) := fr_at (fk_3 h ho) ((fr_oth (by rcases ho with rfl | rfl | rfl <;> omega)).trans (h.2.2.2.2.2.2 o j ho hj))
-- arrays
theorem fa_rd {x : Int} (o i : Nat) (h : fsh σ f) (ho : o < 31) (hx : x = i) (hi : i < flen o) : zaI (fput σ f V b u) (f + o) (zi x) = some (V o i) := by
  have h8 := flen_le o ho
  rw [zaI_of i (show (fput σ f V b u).1 (f + o) = (1, flen o) from h.2.2.2.1 o ho (by omega)) hx hi (by omega), fp_at ho]
theorem fa_wr {x : Int} {v : Int32} (o i : Nat) (h : fsh σ f) (ho : o < 31) (hx : x = i) (hi : i < flen o) : zsI (fput σ f V b u) (f + o) (zi x) v = some (fput σ f (vs V o i v) b u) := by
  have h8 := flen_le o ho
  rw [zsI_of i (show (fput σ f V b u).1 (f + o) = (1, flen o) from h.2.2.2.1 o ho (by omega)) hx hi (by omega), fp_upd ho]
theorem fa_len (o : Nat) (h : fsh σ f) (ho : o < 31) (hl : 0 < flen o) : zlen (fput σ f V b u) (f + o) = some (zi (flen o)) := by
  have e := h.2.2.2.1 o ho hl
  unfold zlen
  rw [if_neg (by rw [show (fput σ f V b u).1 (f + o) = (1, flen o) from e]; omega), show (fput σ f V b u).1 (f + o) = (1, flen o) from e]
  rfl
end CF
theorem flen_next {o : Nat} (h : fo o) : flen (o + 1) = 800 ∧ o + 1 < 31 := by rcases h with rfl | rfl | rfl <;> exact ⟨rfl, by omega⟩
theorem flen_first {o : Nat} (h : fo o) : flen (o + 2) = 30 ∧ o + 2 < 31 := by rcases h with rfl | rfl | rfl <;> exact ⟨rfl, by omega⟩
theorem flen_last {o : Nat} (h : fo o) : flen (o + 3) = 30 ∧ o + 3 < 31 := by rcases h with rfl | rfl | rfl <;> exact ⟨rfl, by omega⟩
theorem flen_size {o : Nat} (h : fo o) : flen (o + 4) = 30 ∧ o + 4 < 31 := by rcases h with rfl | rfl | rfl <;> exact ⟨rfl, by omega⟩
