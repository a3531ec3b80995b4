/-! What the class's flow has to do with the flow as mathematics. -/
def row (v : Nat → Int32) (n : Nat) (g : Nat → Int) : Prop := ∀ j, j < n → v j = zi (g j)
def gmask (g : Nat → Int) : Int := g 0 + 2 * g 1 + 4 * g 2 + 8 * g 3
def gflags (g : Nat → Int) : Prop := ∀ x, x < 4 → g x = 0 ∨ g x = 1
def gF (M : qM) (j : Nat) : Int := if j = 0 then M.1 1 else if j = 1 then M.1 2 else if j = 2 then M.1 3 else if j = 3 then M.1 4 else if j = 4 then M.1 0 else M.1 j
def gK (M : qM) (o c : Nat) : List Nat := if c < 24 then M.2.1 (o + c) else []
def gtot (M : qM) (o : Nat) : Nat := ((List.range 24).map (fun c => (M.2.1 (o + c)).length)).sum
def RP (V : Nat → Nat → Int32) (b : Nat) (M : qM) : Prop :=
  V b 0 = zi (if M.1 67 = 1 then M.1 5 else 0) ∧ (M.1 67 = 1 → V b 1 = zi (M.1 68) ∧ V b 3 = zi (M.1 69) ∧ V b 4 = zi 0 ∧ V b 5 = zi (gmask fun s => M.1 (70 + s)) ∧ V b 6 = zi (gtot M 30) ∧
    row (V (b + 1)) 6 (fun r => gmask fun x => M.1 (74 + (4 * r + x))) ∧ row (V (b + 2)) 4 (fun s => M.1 (98 + s)) ∧ row (V (b + 3)) 16 (fun k => M.1 (102 + k)) ∧ LL V (b + 4) (gK M 30))
def RLt (V : Nat → Nat → Int32) (c : Nat) (M : qM) : Prop :=
  V c 0 = zi (if M.1 118 = 1 then M.1 119 else 0) ∧ (M.1 118 = 1 → V c 1 = zi (M.1 120) ∧ V c 2 = zi (M.1 121) ∧ V c 3 = zi (M.1 122) ∧ V c 4 = zi (M.1 123) ∧ V c 6 = zi (gtot M 54) ∧
    row (V (c + 2)) 4 (fun s => M.1 (124 + s)) ∧ row (V (c + 3)) 16 (fun k => M.1 (128 + k)) ∧ LL V (c + 4) (gK M 54))
def RF (V : Nat → Nat → Int32) (M : qM) : Prop :=
  row (V 0) 9 (gF M) ∧ row (V 1) 4 (fun s => M.1 (9 + s)) ∧ row (V 2) 4 (fun s => M.1 (13 + s)) ∧ row (V 3) 16 (fun k => M.1 (17 + k)) ∧ row (V 4) 4 (fun i => M.1 (33 + i)) ∧
  row (V 5) 6 (fun r => gmask fun x => M.1 (43 + (4 * r + x))) ∧ row (V 29) 6 (fun r => M.1 (37 + r)) ∧ row (V 30) 24 M.2.2 ∧ LL V 6 M.2.1
def RC (V : Nat → Nat → Int32) (b : Nat) (M : qM) : Prop := fx b ∧ RF V M ∧ RP V b M ∧ RLt V (31 - b) M
theorem row_of {v w : Nat → Int32} {n : Nat} {g k : Nat → Int} (h : row v n g) (hw : ∀ j, j < n → w j = v j) (hg : ∀ j, j < n → k j = g j) : row w n k := fun j hj => by rw [hw j hj, hg j hj]; exact h j hj
theorem row_set {v : Nat → Int32} {n i : Nat} {g : Nat → Int} {x : Int} (h : row v n g) : row (qu v i (zi x)) n (qu g i x) := fun j hj => by
  by_cases e : j = i
  · rw [e, qu_at, qu_at]
  · rw [qu_ne e, qu_ne e]; exact h j hj
theorem fx_other {b : Nat} (h : fx b) : fx (31 - b) ∧ 31 - b ≠ b := by rcases h with rfl | rfl <;> exact ⟨by unfold fx; omega, by omega⟩
-- flags as bits
theorem m_bit {g : Nat → Int} (h : gflags g) {x : Nat} (hx : x < 4) : (zi (gmask g) >>> (zi (x : Int) &&& 31)) &&& zi 1 = zi (g x) := by
  have h0 := h 0 (by omega)
  have h1 := h 1 (by omega)
  have h2 := h 2 (by omega)
  have h3 := h 3 (by omega)
  unfold gmask
  have : x = 0 ∨ x = 1 ∨ x = 2 ∨ x = 3 := by omega
  rcases this with rfl | rfl | rfl | rfl <;> (generalize g 0 = a at *; generalize g 1 = b at *; generalize g 2 = c at *; generalize g 3 = d at *; rcases h0 with rfl | rfl <;> rcases h1 with rfl | rfl <;> rcases h2 with rfl | rfl <;> rcases h3 with rfl | rfl <;> decide)
theorem m_or {g : Nat → Int} (h : gflags g) {x : Nat} (hx : x < 4) : zi (gmask g) ||| (zi 1 <<< (zi (x : Int) &&& 31)) = zi (gmask (qu g x 1)) := by
  have h0 := h 0 (by omega)
  have h1 := h 1 (by omega)
  have h2 := h 2 (by omega)
  have h3 := h 3 (by omega)
  unfold gmask
  have : x = 0 ∨ x = 1 ∨ x = 2 ∨ x = 3 := by omega
  rcases this with rfl | rfl | rfl | rfl
  · rw [qu_at, qu_ne (by omega), qu_ne (by omega), qu_ne (by omega)]
    generalize g 0 = a at *; generalize g 1 = b at *; generalize g 2 = c at *; generalize g 3 = d at *; rcases h0 with rfl | rfl <;> rcases h1 with rfl | rfl <;> rcases h2 with rfl | rfl <;> rcases h3 with rfl | rfl <;> decide
  · rw [qu_at, qu_ne (by omega), qu_ne (by omega), qu_ne (by omega)]
    generalize g 0 = a at *; generalize g 1 = b at *; generalize g 2 = c at *; generalize g 3 = d at *; rcases h0 with rfl | rfl <;> rcases h1 with rfl | rfl <;> rcases h2 with rfl | rfl <;> rcases h3 with rfl | rfl <;> decide
  · rw [qu_at, qu_ne (by omega), qu_ne (by omega), qu_ne (by omega)]
    generalize g 0 = a at *; generalize g 1 = b at *; generalize g 2 = c at *; generalize g 3 = d at *; rcases h0 with rfl | rfl <;> rcases h1 with rfl | rfl <;> rcases h2 with rfl | rfl <;> rcases h3 with rfl | rfl <;> decide
  · rw [qu_at, qu_ne (by omega), qu_ne (by omega), qu_ne (by omega)]
    generalize g 0 = a at *; generalize g 1 = b at *; generalize g 2 = c at *; generalize g 3 = d at *; rcases h0 with rfl | rfl <;> rcases h1 with rfl | rfl <;> rcases h2 with rfl | rfl <;> rcases h3 with rfl | rfl <;> decide
theorem m_cnt {τ : zS} {g : Nat → Int} (h : gflags g) : fJ6_bitCount_0f7a4 τ (zi (gmask g)) = some (τ, zi (g 0 + g 1 + g 2 + g 3)) := by
  have h0 := h 0 (by omega)
  have h1 := h 1 (by omega)
  have h2 := h 2 (by omega)
  have h3 := h 3 (by omega)
  unfold gmask fJ6_bitCount_0f7a4
  refine congrArg some (Prod.ext rfl ?_)
  dsimp only
  generalize g 0 = a at *; generalize g 1 = b at *; generalize g 2 = c at *; generalize g 3 = d at *
  rcases h0 with rfl | rfl <;> rcases h1 with rfl | rfl <;> rcases h2 with rfl | rfl <;> rcases h3 with rfl | rfl <;> decide +kernel
theorem m_zero {g : Nat → Int} (h : gflags g) : gmask g = 0 ↔ g 0 + g 1 + g 2 + g 3 = 0 := by
  have h0 := h 0 (by omega)
  have h1 := h 1 (by omega)
  have h2 := h 2 (by omega)
  have h3 := h 3 (by omega)
  unfold gmask
  omega
theorem m_le {g : Nat → Int} (h : gflags g) : 0 ≤ gmask g ∧ gmask g < 16 := by
  have h0 := h 0 (by omega)
  have h1 := h 1 (by omega)
  have h2 := h 2 (by omega)
  have h3 := h 3 (by omega)
  unfold gmask
  omega
section RC
variable {σ : zS} {f b u : Nat} {V : Nat → Nat → Int32} {M : qM} {P : qP}
/-- whether there is one in progress; a completed one -/
theorem k_exists (h : fsh σ f) (hC : RC V b M) (h5 : 1 ≤ M.1 5 ∨ M.1 67 ≠ 1) (h5b : M.1 5 < 1000000000) : fX0_exists (fput σ f V b u) (f + b) = some (fput σ f V b u, zb (decide (M.1 67 = 1))) := by
  obtain ⟨hx, hF, hP, hL⟩ := hC
  unfold fX0_exists
  rw [cg_i h hx, Option.bind_some, hP.1]
  by_cases e : M.1 67 = 1
  · rw [if_pos e, decide_eq_true e, if_neg (by rw [zi_le (by omega) (by omega) (by omega) (by omega)]; omega), zrZ_1]; rfl
  · rw [if_neg e, decide_eq_false e, if_pos (by decide), zrZ_0]; rfl
theorem k_done (h : fsh σ f) (hC : RC V b M) (h5 : M.1 118 = 1 → 1 ≤ M.1 119) (h5b : M.1 119 < 1000000000) : fX0_exists (fput σ f V b u) (f + (31 - b)) = some (fput σ f V b u, zb (decide (M.1 118 = 1))) := by
  obtain ⟨hx, hF, hP, hL⟩ := hC
  unfold fX0_exists
  rw [cg_i h (fx_other hx).1, Option.bind_some, hL.1]
  by_cases e : M.1 118 = 1
  · have := h5 e
    rw [if_pos e, decide_eq_true e, if_neg (by rw [zi_le (by omega) (by omega) (by omega) (by omega)]; omega), zrZ_1]; rfl
  · rw [if_neg e, decide_eq_false e, if_pos (by decide), zrZ_0]; rfl
theorem k_overt (h : fsh σ f) (hC : RC V b M) (h5 : 1 ≤ M.1 5 ∨ M.1 67 ≠ 1) (h5b : M.1 5 < 1000000000) (h69 : M.1 67 = 1 → M.1 69 = 0 ∨ M.1 69 = 1) : fX0_isOvertaking (fput σ f V b u) (f + b) = some (fput σ f V b u, zb (qovert M)) := by
  have hx := hC.1
  unfold fX0_isOvertaking qovert
  rw [fc_0 h hx, k_exists h hC h5 h5b, Option.bind_some]
  dsimp only
  by_cases e : M.1 67 = 1
  · rw [decide_eq_true e, if_neg (show ¬ zb true = zi 0 from by decide), cg_i h hx, Option.bind_some, (hC.2.2.1.2 e).2.1, Bool.true_and]
    rcases h69 e with e2 | e2
    · rw [e2, if_pos rfl, zrZ_0]; rfl
    · rw [e2, if_neg (by decide), zrZ_1]; rfl
  · rw [decide_eq_false e, if_pos (show zb false = zi 0 from rfl), zrZ_0]; rfl
theorem k_hasPut {s : Nat} (h : fsh σ f) (hC : RC V b M) (e : M.1 67 = 1) (hf : gflags (fun s => M.1 (70 + s))) (hs : s < 4) : fX0_hasPut (fput σ f V b u) (f + b) (zi s) = some (fput σ f V b u, zb (decide (M.1 (70 + s) = 1))) := by
  unfold fX0_hasPut
  rw [cg_i h hC.1, Option.bind_some, (hC.2.2.1.2 e).2.2.2.1, m_bit hf hs]
  rcases hf s hs with e2 | e2
  · dsimp only at e2
    rw [e2, if_neg (by decide), zrZ_0]; rfl
  · dsimp only at e2
    rw [e2, if_pos rfl, zrZ_1]; rfl
end RC
