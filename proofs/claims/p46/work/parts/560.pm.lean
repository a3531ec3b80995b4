/-! THE PARSER AS MATHEMATICS: the tokens of a text of bytes, and what its statements tell. -/
/-- a byte is 1 a letter, 2 a digit, 3 a semicolon, 4 strange -/
def pck (c : Int) : Nat := if 97 ≤ c ∧ c ≤ 122 then 1 else if 48 ≤ c ∧ c ≤ 57 then 2 else if c = 59 then 3 else 4
def pc (tx : List Int32) (p : Nat) : Int := (tx.getD p 0).toInt
def pk (tx : List Int32) (p : Nat) : Nat := if p < tx.length then pck (pc tx p) else 0
def pbl (tx : List Int32) (p : Nat) : Bool := decide (p < tx.length ∧ (pc tx p = 32 ∨ pc tx p = 10))
/-- the first place from p on where f ends -/
def pto (f : Nat → Bool) : Nat → Nat → Nat
  | 0, p => p
  | n + 1, p => if f p then pto f n (p + 1) else p
theorem pto_stop {f : Nat → Bool} {n p : Nat} (h : f p = false) : pto f n p = p := by
  cases n with
  | zero => rfl
  | succ n => exact if_neg (by rw [h]; exact Bool.false_ne_true)
theorem pto_go {f : Nat → Bool} {l p : Nat} (h : f p = true) (hp : p < l) : pto f (l - p) p = pto f (l - (p + 1)) (p + 1) := by
  obtain ⟨n, e⟩ : ∃ n, l - p = n + 1 := ⟨l - p - 1, by omega⟩
  rw [e, show l - (p + 1) = n by omega]
  exact if_pos h
theorem pto_in {f : Nat → Bool} : ∀ {n p : Nat}, p ≤ pto f n p ∧ pto f n p ≤ p + n
  | 0, p => ⟨Nat.le_refl _, Nat.le_refl _⟩
  | n + 1, p => by
    have := pto_in (f := f) (n := n) (p := p + 1)
    unfold pto
    split <;> omega
theorem pto_f {f : Nat → Bool} : ∀ {n p i : Nat}, p ≤ i → i < pto f n p → f i = true
  | 0, p, i, h1, h2 => absurd (show i < p from h2) (by omega)
  | n + 1, p, i, h1, h2 => by
    unfold pto at h2
    by_cases e : f p = true
    · rw [if_pos e] at h2
      by_cases e2 : i = p
      · rw [e2]
        exact e
      · exact pto_f (n := n) (p := p + 1) (by omega) h2
    · rw [if_neg e] at h2
      omega
/-- from where a token stands behind p, its kind, its end, its text -/
def pF (tx : List Int32) (p : Nat) : Nat := pto (pbl tx) (tx.length - p) p
def pru (tx : List Int32) (k : Nat) (p : Nat) : Nat := pto (fun i => decide (pk tx i = k)) (tx.length - p) p
def pE (tx : List Int32) (f : Nat) : Nat := if pk tx f = 0 then f else if pk tx f = 1 ∨ pk tx f = 2 then pru tx (pk tx f) (f + 1) else f + 1
def pK (tx : List Int32) (p : Nat) : Nat := pk tx (pF tx p)
def pT (tx : List Int32) (p : Nat) : Nat := pE tx (pF tx p)
def ptx (tx : List Int32) (f t : Nat) : List Int32 := (tx.drop f).take (t - f)
/-- which of the nine words stands there -/
def pwo (tx : List Int32) (f t : Nat) : Option Nat := (List.range 9).find? (fun i => decide (ptx tx f t = zsByt.getD i []))
def pW (tx : List Int32) (p : Nat) : Option Nat := if pK tx p = 1 then pwo tx (pF tx p) (pT tx p) else none
/-- the number of the first n digits from f on -/
def pnum (tx : List Int32) (f : Nat) : Nat → Int
  | 0 => 0
  | n + 1 => 10 * pnum tx f n + pc tx (f + n) - 48
/-- sources told, their records, seeds, lags, names; settings -/
abbrev pD := Nat × (Nat → Nat) × (Nat → Nat) × (Nat → Nat) × (Nat → List Int32) × (Nat → Option Nat)
def pb {A B : Type} (x : (Nat × Nat) ⊕ A) (f : A → (Nat × Nat) ⊕ B) : (Nat × Nat) ⊕ B := match x with | .inl e => .inl e | .inr a => f a
def plo (w : Nat) : Int := if w = 4 ∨ w = 5 ∨ w = 6 ∨ w = 8 then 1 else 0
def pup (w : Nat) : Int := [0, 200, 999, 9, 4, 2, 9, 99, 1].getD w 0
def pnb (tx : List Int32) (w p : Nat) : (Nat × Nat) ⊕ (Nat × Nat) :=
  if pK tx p = 2 ∧ pT tx p - pF tx p ≤ 3 then (if plo w ≤ pnum tx (pF tx p) (pT tx p - pF tx p) ∧ pnum tx (pF tx p) (pT tx p - pF tx p) ≤ pup w then .inr ((pnum tx (pF tx p) (pT tx p - pF tx p)).toNat, pT tx p) else .inl (2, pF tx p)) else .inl (1, pF tx p)
def pwd (tx : List Int32) (w p : Nat) : (Nat × Nat) ⊕ Nat := if pW tx p = some w then .inr (pT tx p) else .inl (1, pF tx p)
def psm (tx : List Int32) (p : Nat) : (Nat × Nat) ⊕ Nat := if pK tx p = 3 then .inr (pT tx p) else .inl (1, pF tx p)
def pna (tx : List Int32) (D : pD) (p : Nat) : (Nat × Nat) ⊕ Nat :=
  if pK tx p = 1 ∧ pT tx p - pF tx p ≤ 8 ∧ pW tx p = none then (if ∃ s, s < D.1 ∧ D.2.2.2.2.1 s = ptx tx (pF tx p) (pT tx p) then .inl (3, pF tx p) else .inr (pT tx p)) else .inl (1, pF tx p)
def pla (tx : List Int32) (p : Nat) : (Nat × Nat) ⊕ (Nat × Nat) := if pW tx p = some 3 then pnb tx 3 (pT tx p) else .inr (0, p)
def pput (D : pD) (v sd lg : Nat) (nm : List Int32) : pD := (D.1 + 1, qu D.2.1 D.1 v, qu D.2.2.1 D.1 sd, qu D.2.2.2.1 D.1 lg, qu D.2.2.2.2.1 D.1 nm, D.2.2.2.2.2)
def psr (tx : List Int32) (D : pD) (p : Nat) : (Nat × Nat) ⊕ (pD × Nat) :=
  if 4 ≤ D.1 then .inl (4, pF tx p) else pb (pna tx D (pT tx p)) fun p2 => pb (pwd tx 1 p2) fun p3 => pb (pnb tx 1 p3) fun a => pb (pwd tx 2 a.2) fun p4 => pb (pnb tx 2 p4) fun b => pb (pla tx b.2) fun c => .inr (pput D a.1 b.1 c.1 (ptx tx (pF tx (pT tx p)) (pT tx (pT tx p))), c.2)
def pse (tx : List Int32) (D : pD) (w p : Nat) : (Nat × Nat) ⊕ (pD × Nat) :=
  if D.2.2.2.2.2 (w - 4) = none then (if w = 8 then .inr ((D.1, D.2.1, D.2.2.1, D.2.2.2.1, D.2.2.2.2.1, qu D.2.2.2.2.2 4 (some 1)), pT tx p) else pb (pnb tx w (pT tx p)) fun a => .inr ((D.1, D.2.1, D.2.2.1, D.2.2.2.1, D.2.2.2.2.1, qu D.2.2.2.2.2 (w - 4) (some a.1)), a.2)) else .inl (3, pF tx p)
def pst (tx : List Int32) (D : pD) (p : Nat) : (Nat × Nat) ⊕ (pD × Nat) :=
  match pW tx p with
  | none => .inl (1, pF tx p)
  | some w => if w = 0 then pb (psr tx D p) fun a => pb (psm tx a.2) fun p2 => .inr (a.1, p2) else if 4 ≤ w then pb (pse tx D w p) fun a => pb (psm tx a.2) fun p2 => .inr (a.1, p2) else .inl (1, pF tx p)
def plp (tx : List Int32) : Nat → pD → Nat → (Nat × Nat) ⊕ (pD × Nat)
  | 0, D, p => .inr (D, p)
  | n + 1, D, p => if pK tx p = 0 then .inr (D, p) else pb (pst tx D p) fun a => plp tx n a.1 a.2
def pD0 : pD := (0, fun _ => 0, fun _ => 0, fun _ => 0, fun _ => [], fun _ => none)
def ppa (tx : List Int32) : (Nat × Nat) ⊕ pD := pb (plp tx 300 pD0 0) fun a => if a.1.1 = 0 then .inl (5, pF tx a.2) else .inr a.1
section PM
variable {tx : List Int32} {p f t k : Nat}
theorem pbl_in (h : pbl tx p = true) : p < tx.length := (of_decide_eq_true h).1
theorem pF_in (h : p ≤ tx.length) : p ≤ pF tx p ∧ pF tx p ≤ tx.length := by
  have := pto_in (f := pbl tx) (n := tx.length - p) (p := p)
  unfold pF
  omega
theorem ppk_in (h : pk tx p ≠ 0) : p < tx.length := by
  unfold pk at h
  by_cases e : p < tx.length
  · exact e
  · rw [if_neg e] at h
    exact absurd rfl h
theorem pck_ne (c : Int) : pck c ≠ 0 ∧ pck c ≤ 4 := by
  unfold pck
  split
  · decide
  · split
    · decide
    · split <;> decide
theorem ppk_0 : pk tx p = 0 ↔ tx.length ≤ p := by
  unfold pk
  by_cases e : p < tx.length
  · rw [if_pos e]
    exact ⟨fun h => absurd h (pck_ne _).1, fun h => by omega⟩
  · rw [if_neg e]
    exact ⟨fun _ => by omega, fun _ => rfl⟩
theorem ppk_le : pk tx p ≤ 4 := by
  unfold pk
  split
  · exact (pck_ne _).2
  · omega
theorem pru_in (h : p ≤ tx.length) : p ≤ pru tx k p ∧ pru tx k p ≤ tx.length := by
  have := pto_in (f := fun i => decide (pk tx i = k)) (n := tx.length - p) (p := p)
  unfold pru
  omega
theorem pE_in (h : f ≤ tx.length) : f ≤ pE tx f ∧ pE tx f ≤ tx.length ∧ (pk tx f ≠ 0 → f < pE tx f) := by
  unfold pE
  by_cases e : pk tx f = 0
  · rw [if_pos e]
    exact ⟨Nat.le_refl _, h, fun q => absurd e q⟩
  · have := ppk_in e
    rw [if_neg e]
    split
    · have := pru_in (tx := tx) (k := pk tx f) (p := f + 1) (by omega)
      omega
    · omega
theorem pT_in (h : p ≤ tx.length) : pF tx p ≤ pT tx p ∧ pT tx p ≤ tx.length ∧ p ≤ pT tx p ∧ (pK tx p ≠ 0 → p < pT tx p) := by
  have h1 := pF_in h
  have h2 := pE_in (tx := tx) (f := pF tx p) h1.2
  unfold pT pK
  refine ⟨h2.1, h2.2.1, by omega, fun q => ?_⟩
  have := h2.2.2 q
  omega
end PM
