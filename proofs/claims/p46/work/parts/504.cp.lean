/-! Flows side by side; a copy of another's lists and checkpoint. -/
def fis (σ : zS) (g : Nat) (V : Nat → Nat → Int32) (b u : Nat) : Prop :=
  fsh σ g ∧ (∀ o, o < 31 → σ.2.1 (g + o) = V o) ∧ σ.2.2.1 g 15 = some (g + b) ∧ σ.2.2.1 g 16 = some (g + (31 - b)) ∧ σ.2.2.1 g 17 = some u
def fapart (f g : Nat) : Prop := f + 31 ≤ g ∨ g + 31 ≤ f
theorem fsh_put {σ : zS} {f b u : Nat} {V : Nat → Nat → Int32} (h : fsh σ f) : fsh (fput σ f V b u) f := by
  obtain ⟨a1, a2, a3, a4, a5, a6, a7⟩ := h
  refine ⟨a1, a2, a3, a4, ?_, fun x hx => ?_, fun o j ho hj => ?_⟩
  · rw [fr_own (by decide), fr_own (by decide), fr_own (by decide), fr_own (by decide), fr_own (by decide), fr_own (by decide), fr_own (by decide), fr_own (by decide)]
    exact a5
  · rw [fr_oth (by omega), fr_oth (by omega), fr_oth (by omega), fr_oth (by omega)]
    exact a6 x hx
  · rw [fr_oth (by omega)]
    exact a7 o j ho hj
theorem fsh_put2 {σ : zS} {f g b u : Nat} {V : Nat → Nat → Int32} (h : fsh σ g) (hd : fapart f g) : fsh (fput σ f V b u) g := by
  obtain ⟨a1, a2, a3, a4, a5, a6, a7⟩ := h
  unfold fapart at hd
  refine ⟨a1, a2, a3, a4, ?_, fun x hx => ?_, fun o j ho hj => ?_⟩
  · rw [fr_oth (by omega), fr_oth (by omega), fr_oth (by omega), fr_oth (by omega), fr_oth (by omega), fr_oth (by omega), fr_oth (by omega), fr_oth (by omega)]
    exact a5
  · rw [fr_oth (by omega), fr_oth (by omega), fr_oth (by omega), fr_oth (by omega)]
    exact a6 x hx
  · rw [fr_oth (by omega)]
    exact a7 o j ho hj
theorem fis_put {σ : zS} {f b u : Nat} {V : Nat → Nat → Int32} (h : fsh σ f) : fis (fput σ f V b u) f V b u := by
  refine ⟨fsh_put h, fun o ho => fp_at ho, ?_, ?_, ?_⟩
  · unfold fput; dsimp only; rw [if_pos rfl, if_pos rfl]
  · unfold fput; dsimp only; rw [if_pos rfl, if_neg (by decide), if_pos rfl]
  · unfold fput; dsimp only; rw [if_pos rfl, if_neg (by decide), if_neg (by decide), if_pos rfl]
theorem fis_put2 {σ : zS} {f g b u b2 u2 : Nat} {V V2 : Nat → Nat → Int32} (h : fis σ g V2 b2 u2) (hd : fapart f g) : fis (fput σ f V b u) g V2 b2 u2 := by
  obtain ⟨a1, a2, a3, a4, a5⟩ := h
  have hd2 := hd
  unfold fapart at hd
  refine ⟨fsh_put2 a1 hd2, fun o ho => ?_, ?_, ?_, ?_⟩
  · rw [fp_ne (by omega)]; exact a2 o ho
  · rw [fr_oth (by omega)]; exact a3
  · rw [fr_oth (by omega)]; exact a4
  · rw [fr_oth (by omega)]; exact a5
theorem fput_self {σ : zS} {f b u : Nat} {V : Nat → Nat → Int32} (h : fis σ f V b u) : fput σ f V b u = σ := by
  obtain ⟨a1, a2, a3, a4, a5⟩ := h
  unfold fput
  refine Prod.ext rfl (Prod.ext ?_ (Prod.ext ?_ rfl))
  · funext p
    dsimp only
    by_cases e : f ≤ p ∧ p < f + 31
    · rw [if_pos e, ← a2 (p - f) (by omega), show f + (p - f) = p from by omega]
    · rw [if_neg e]
  · funext p j
    dsimp only
    by_cases e : p = f
    · subst e
      rw [if_pos rfl]
      by_cases e1 : j = 15
      · rw [if_pos e1, e1, a3]
      · rw [if_neg e1]
        by_cases e2 : j = 16
        · rw [if_pos e2, e2, a4]
        · rw [if_neg e2]
          by_cases e3 : j = 17
          · rw [if_pos e3, e3, a5]
          · rw [if_neg e3]
    · rw [if_neg e]
section CP
variable {σ : zS} {f b u g b2 u2 : Nat} {V V2 : Nat → Nat → Int32}
/-- another's row is copied -/
theorem c_copy2 (o o2 : Nat) (h : fsh σ f) (h2 : fis σ g V2 b2 u2) (hd : fapart f g) (ho : o < 31) (ho2 : o2 < 31) (hl : 0 < flen o) (he : flen o2 = flen o) : fX9_copyRow (fput σ f V b u) (g + o2) (f + o) = some (fput σ f (vw V o (fun j => if j < flen o then V2 o2 j else V o j)) b u) := by
  refine c_copy o h ho hl ?_ ?_
  · rw [← he]; exact h2.1.2.2.2.1 o2 ho2 (by omega)
  · unfold fapart at hd
    rw [fp_ne (by omega)]
    exact h2.2.1 o2 ho2
/-- one of its own rows is copied -/
theorem c_copy1 (o o2 : Nat) (h : fsh σ f) (ho : o < 31) (ho2 : o2 < 31) (hl : 0 < flen o) (he : flen o2 = flen o) : fX9_copyRow (fput σ f V b u) (f + o2) (f + o) = some (fput σ f (vw V o (fun j => if j < flen o then V o2 j else V o j)) b u) := by
  refine c_copy o h ho hl ?_ (fp_at ho2)
  rw [← he]; exact h.2.2.2.1 o2 ho2 (by omega)
theorem olr {o : Nat} (j : Nat) (h2 : fis σ g V2 b2 u2) (hd : fapart f g) (ho : fo o) (hj : j < 4) : zgR 3 j (fput σ f V b u) (g + o) = some (g + (o + 1 + j)) := by
  unfold fapart at hd
  refine fr_at (fk_3 h2.1 ho) ((fr_oth ?_).trans (h2.1.2.2.2.2.2.2 o j ho hj))
  rcases ho with rfl | rfl | rfl <;> omega
theorem c_lcopy {o o2 : Nat} (h : fsh σ f) (h2 : fis σ g V2 b2 u2) (hd : fapart f g) (ho : fo o) (ho2 : fo o2) : ∃ W, fX3_copyFrom (fput σ f V b u) (f + o) (g + o2) = some (fput σ f W b u) ∧ (∀ i j, 1 ≤ i → i ≤ 4 → j < flen (o + i) → W (o + i) j = V2 (o2 + i) j) ∧ ∀ p, (p ≤ o ∨ o + 4 < p) → W p = V p := by
  have n1 := flen_next ho
  have n2 := flen_next ho2
  have f1 := flen_first ho
  have f2 := flen_first ho2
  have l1 := flen_last ho
  have l2 := flen_last ho2
  have s1 := flen_size ho
  have s2 := flen_size ho2
  refine ⟨vw (vw (vw (vw V (o + 1) (fun j => if j < flen (o + 1) then V2 (o2 + 1) j else V (o + 1) j)) (o + 2) (fun j => if j < flen (o + 2) then V2 (o2 + 2) j else V (o + 2) j)) (o + 3) (fun j => if j < flen (o + 3) then V2 (o2 + 3) j else V (o + 3) j)) (o + 4) (fun j => if j < flen (o + 4) then V2 (o2 + 4) j else V (o + 4) j), ?_, fun i j hi1 hi4 hj => ?_, fun p hp => ?_⟩
  rotate_left
  · have : i = 1 ∨ i = 2 ∨ i = 3 ∨ i = 4 := by omega
    rcases this with rfl | rfl | rfl | rfl
    · rw [vw_ne (by omega), vw_ne (by omega), vw_ne (by omega), vw_at, if_pos hj]
    · rw [vw_ne (by omega), vw_ne (by omega), vw_at, if_pos hj]
    · rw [vw_ne (by omega), vw_at, if_pos hj]
    · rw [vw_at, if_pos hj]
  · rw [vw_ne (by omega), vw_ne (by omega), vw_ne (by omega), vw_ne (by omega)]
  · unfold fX3_copyFrom
    rw [olr 0 h2 hd ho2 (by omega), Option.bind_some, lr 0 h ho (by omega), Option.bind_some, c_copy2 (o + 1) (o2 + 1) h h2 hd n1.2 n2.2 (by omega) (by omega), Option.bind_some,
      olr 1 h2 hd ho2 (by omega), Option.bind_some, lr 1 h ho (by omega), Option.bind_some, c_copy2 (o + 2) (o2 + 2) h h2 hd f1.2 f2.2 (by omega) (by omega), Option.bind_some,
      olr 2 h2 hd ho2 (by omega), Option.bind_some, lr 2 h ho (by omega), Option.bind_some, c_copy2 (o + 3) (o2 + 3) h h2 hd l1.2 l2.2 (by omega) (by omega), Option.bind_some,
      olr 3 h2 hd ho2 (by omega), Option.bind_some, lr 3 h ho (by omega), Option.bind_some, c_copy2 (o + 4) (o2 + 4) h h2 hd s1.2 s2.2 (by omega) (by omega), Option.bind_some,
      vw_ne (by omega), vw_ne (by omega), vw_ne (by omega), vw_ne (by omega), vw_ne (by omega), vw_ne (by omega)]
theorem LL_of {W : Nat → Nat → Int32} {o o2 : Nat} {L : Nat → List Nat} (ho : fo o) (hL : LL V2 o2 L) (hW : ∀ i j, 1 ≤ i → i ≤ 4 → j < flen (o + i) → W (o + i) j = V2 (o2 + i) j) : LL W o L := by
  intro l hl
  obtain ⟨a1, a2, a3, a4, a5, a6⟩ := hL l hl
  refine ⟨?_, ?_, ?_, fun i hi => ?_, a5, a6⟩
  · rw [hW 4 l (by omega) (by omega) (by rw [(flen_size ho).1]; exact hl)]; exact a1
  · rw [hW 2 l (by omega) (by omega) (by rw [(flen_first ho).1]; exact hl)]; exact a2
  · rw [hW 3 l (by omega) (by omega) (by rw [(flen_last ho).1]; exact hl)]; exact a3
  · rw [hW 1 _ (by omega) (by omega) (by rw [(flen_next ho).1]; exact a5 _ (getD_mem (by omega)))]; exact a4 i hi
end CP
