/-- the kinds and references of the reference -/
def rsh (σ : zS) (m : Nat) : Prop :=
  (σ.1 m).1 = 14 ∧ (σ.2.2.1 m 3 = some (m + 1) ∧ σ.2.2.1 m 4 = some (m + 2) ∧ σ.2.2.1 m 5 = some (m + 3) ∧ σ.2.2.1 m 6 = some (m + 4) ∧ σ.2.2.1 m 7 = some (m + 5) ∧ σ.2.2.1 m 8 = some (m + 6) ∧ σ.2.2.1 m 9 = some (m + 7) ∧ σ.2.2.1 m 10 = some (m + 8) ∧ σ.2.2.1 m 11 = some (m + 9) ∧ σ.2.2.1 m 14 = some (m + 10) ∧ σ.2.2.1 m 27 = some (m + 11) ∧ σ.2.2.1 m 28 = some (m + 12) ∧ σ.2.2.1 m 29 = some (m + 13) ∧ σ.2.2.1 m 30 = some (m + 14)) ∧
  (σ.1 (m + 1) = (1, 4) ∧ σ.1 (m + 2) = (1, 4) ∧ σ.1 (m + 3) = (3, 4) ∧ σ.1 (m + 4) = (1, 33894) ∧ σ.1 (m + 5) = (1, 33894) ∧ σ.1 (m + 6) = (1, 33894) ∧ σ.1 (m + 7) = (1, 33894) ∧ σ.1 (m + 8) = (1, 33894) ∧ σ.1 (m + 9) = (1, 203364) ∧ σ.1 (m + 10) = (2, 300) ∧ σ.1 (m + 11) = (1, 4) ∧ σ.1 (m + 12) = (1, 4) ∧ σ.1 (m + 13) = (3, 4) ∧ σ.1 (m + 14) = (2, 9000))
/-- the setup that the reference has -/
def rset (σ : zS) (m : Nat) (P : qP) : Prop := σ.2.1 m 1 = zi P.1 ∧ σ.2.1 m 2 = zi P.2.1 ∧ ∀ s, s < P.1 → σ.2.1 (m + 1) s = zi (P.2.2.1 s) ∧ σ.2.1 (m + 2) s = zi (P.2.2.2 s)
theorem zaI_of {σ : zS} {a len : Nat} {x : Int} (i : Nat) (hk : σ.1 a = (1, len)) (hx : x = i) (hi : i < len) (h31 : len < 2147483648) : zaI σ a (zi x) = some (σ.2.1 a i) := by
  subst hx
  unfold zaI
  rw [hk]
  dsimp only
  have h0 : ¬ (zi (i : Int) < 0) := by rw [zi_0, zi_lt (by omega) (by omega) (by omega) (by omega)]; omega
  rw [if_pos rfl, zi_nat (by omega) (by omega), Int.toNat_natCast, if_neg (fun q => q.elim h0 (by omega))]
theorem zsI_of {σ : zS} {a len : Nat} {x : Int} {v : Int32} (i : Nat) (hk : σ.1 a = (1, len)) (hx : x = i) (hi : i < len) (h31 : len < 2147483648) : zsI σ a (zi x) v = some (zuI σ a i v) := by
  subst hx
  unfold zsI
  rw [hk]
  dsimp only
  have h0 : ¬ (zi (i : Int) < 0) := by rw [zi_0, zi_lt (by omega) (by omega) (by omega) (by omega)]; omega
  rw [if_pos rfl, zi_nat (by omega) (by omega), Int.toNat_natCast, if_neg (fun q => q.elim h0 (by omega))]
section RD
variable {σ : zS} {m : Nat} {A : Nat → Int32} {P : qP}
end RD
/-! Lists in the row. -/
def rb (c : Nat) : Nat :=
  if c < 16 then 144 + 202 * (4 * (c % 4) + c / 4) else if c < 24 then 3376 + 802 * (2 * (c % 4) + (c / 4 - 4)) else if c < 26 then 9792 + 801 * (c - 24) else if c < 28 then 11394 + 801 * (c - 26) else if c < 30 then 12996 + 801 * (c - 28)
  else if c < 46 then 14598 + 202 * (4 * ((c - 30) % 4) + (c - 30) / 4) else if c < 54 then 17830 + 802 * (2 * ((c - 30) % 4) + ((c - 30) / 4 - 4)) else if c < 70 then 24246 + 202 * (4 * ((c - 54) % 4) + (c - 54) / 4) else 27478 + 802 * (2 * ((c - 54) % 4) + ((c - 54) / 4 - 4))
/-- how much a list may hold -/
def rcap (c : Nat) : Nat := if c < 16 then 201 else if c < 24 then 801 else if c < 30 then 800 else if c < 46 then 201 else if c < 54 then 801 else if c < 70 then 201 else 801
def rl (A : Nat → Int32) (b cap : Nat) (l : List Int) : Prop := A b = zi l.length ∧ l.length ≤ cap ∧ ∀ i, i < l.length → A (b + 1 + i) = zi (l.getD i 0)
/-- the row holds the numbers S and the lists R -/
def RA (A : Nat → Int32) (S : Nat → Int) (R : Nat → List Int) : Prop := (∀ k, k < 144 → A k = zi (S k)) ∧ ∀ c, c < 78 → rl A (rb c) (rcap c) (R c)