/-! Whole numbers of the machine told by Int. -/
abbrev zin (a : Int) : Prop := -2147483648 ≤ a ∧ a < 2147483648
theorem zi_add (a b : Int) : zi a + zi b = zi (a + b) := (Int32.ofInt_add a b).symm
theorem zi_sub (a b : Int) : zi a - zi b = zi (a - b) := (Int32.ofInt_sub a b).symm
theorem zi_mul (a b : Int) : zi a * zi b = zi (a * b) := (Int32.ofInt_mul a b).symm
theorem zi_toInt {a : Int} (h : -2147483648 ≤ a) (h2 : a < 2147483648) : (zi a).toInt = a := Int32.toInt_ofInt_of_le h h2
theorem zi_lt {a b : Int} (h1 : -2147483648 ≤ a) (h2 : a < 2147483648) (h3 : -2147483648 ≤ b) (h4 : b < 2147483648) : zi a < zi b ↔ a < b := by
  rw [Int32.lt_iff_toInt_lt, zi_toInt h1 h2, zi_toInt h3 h4]
theorem zi_le {a b : Int} (h1 : -2147483648 ≤ a) (h2 : a < 2147483648) (h3 : -2147483648 ≤ b) (h4 : b < 2147483648) : zi a ≤ zi b ↔ a ≤ b := by
  rw [Int32.le_iff_toInt_le, zi_toInt h1 h2, zi_toInt h3 h4]
theorem zi_eq {a b : Int} (h1 : -2147483648 ≤ a) (h2 : a < 2147483648) (h3 : -2147483648 ≤ b) (h4 : b < 2147483648) : zi a = zi b ↔ a = b := by
  rw [← Int32.toInt_inj, zi_toInt h1 h2, zi_toInt h3 h4]
theorem zi_nat {a : Int} (h1 : -2147483648 ≤ a) (h2 : a < 2147483648) : (zi a).toNatClampNeg = a.toNat := Int32.toNatClampNeg_ofInt_of_le h1 h2
theorem zi_div {a b : Int} (h1 : 0 ≤ a) (h2 : a < 2147483648) (h3 : 0 < b) (h4 : b < 2147483648) : zi a / zi b = zi (a / b) := by
  rw [← Int.tdiv_eq_ediv_of_nonneg h1]
  have e1 : Int32.minValue.toInt = -2147483648 := by decide
  have e2 : Int32.maxValue.toInt = 2147483647 := by decide
  exact (Int32.ofInt_tdiv (by omega) (by omega) (by omega) (by omega)).symm
theorem zi_mod {a b : Int} (h1 : 0 ≤ a) (h2 : a < 2147483648) (h3 : 0 < b) (h4 : b < 2147483648) : zi a - zi a / zi b * zi b = zi (a % b) := by
  rw [zi_div h1 h2 h3 h4, zi_mul, zi_sub]
  congr 1
  have := Int.mul_ediv_add_emod a b
  rw [Int.mul_comm] at this
  omega
theorem zi_0 : (0 : Int32) = zi 0 := rfl
theorem zi_1 : (1 : Int32) = zi 1 := rfl
theorem znz_zi {a : Int} (h1 : a ≠ 0) (h2 : -2147483648 ≤ a) (h3 : a < 2147483648) : znz (zi a) = some () := by
  unfold znz
  rw [if_neg]
  intro h
  rw [zi_0, zi_eq h2 h3 (by decide) (by decide)] at h
  exact h1 h
theorem zrZ_0 (σ : zS) : zrZ σ (zi 0) = some (σ, zi 0) := if_pos (Or.inl rfl)
theorem zrZ_1 (σ : zS) : zrZ σ (zi 1) = some (σ, zi 1) := if_pos (Or.inr rfl)
/-- a boolean as the machine has it -/
def zb (b : Bool) : Int32 := if b then zi 1 else zi 0
theorem zrZ_b (σ : zS) (b : Bool) : zrZ σ (zb b) = some (σ, zb b) := by cases b <;> rfl
theorem zb_eq0 (b : Bool) : zb b = zi 0 ↔ b = false := by
  cases b
  · exact ⟨fun _ => rfl, fun _ => rfl⟩
  · constructor
    · intro h; exact absurd h (by decide)
    · intro h; cases h
/-- a loop that counts: P n holds at the end, unless it leaves before -/
theorem zloop_run {S R : Type} {step : S → Option (S ⊕ R)} (n : Nat) (P : Nat → S → Prop) (Q : R → Prop) (hs : ∀ i s, i < n → P i s → (∃ s2, step s = some (.inl s2) ∧ P (i + 1) s2) ∨ ∃ x, step s = some (.inr x) ∧ Q x) (he : ∀ s, P n s → ∃ x, step s = some (.inr x) ∧ Q x) {fuel : Nat} (hf : n < fuel) {s : S} (h : P 0 s) : ∃ x, zloop step fuel s = some x ∧ Q x := by
  have key : ∀ (k i fuel : Nat) (s : S), i + k = n → k < fuel → P i s → ∃ x, zloop step fuel s = some x ∧ Q x := by
    intro k
    induction k with
    | zero =>
      intro i fuel s hi hk hp
      obtain ⟨f, rfl⟩ : ∃ f, fuel = f + 1 := ⟨fuel - 1, by omega⟩
      have : i = n := by omega
      subst this
      obtain ⟨x, e, q⟩ := he s hp
      refine ⟨x, ?_, q⟩
      unfold zloop
      rw [e]
      rfl
    | succ k ih =>
      intro i fuel s hi hk hp
      obtain ⟨f, rfl⟩ : ∃ f, fuel = f + 1 := ⟨fuel - 1, by omega⟩
      rcases hs i s (by omega) hp with ⟨s2, e, p2⟩ | ⟨x, e, q⟩
      · obtain ⟨x, e2, q⟩ := ih (i + 1) f s2 (by omega) (by omega) p2
        refine ⟨x, ?_, q⟩
        unfold zloop
        rw [e]
        exact e2
      · refine ⟨x, ?_, q⟩
        unfold zloop
        rw [e]
        rfl
  exact key n 0 fuel s (by omega) hf h
theorem zfuel_lt {n : Nat} (h : n < 1000000) : n < zfuel := h
