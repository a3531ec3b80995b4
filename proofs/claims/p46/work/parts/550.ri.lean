/-! THE REFERENCE'S STATE at m: its rows, its history, its texts. -/
def rp (σ : zS) (a : Nat) (g : Nat → Int32) : zS := (σ.1, (fun x => if x = a then g else σ.2.1 x), σ.2.2)
section RX
variable {σ τ : zS} {m a b : Nat} {g k : Nat → Int32} {A : Nat → Int32} {P : qP} {M N : qM}
theorem rp_at : (rp σ a g).2.1 a = g := if_pos rfl
theorem rp_ne {c : Nat} (h : c ≠ a) : (rp σ a g).2.1 c = σ.2.1 c := if_neg h
theorem rp_upd {i : Nat} {v : Int32} : zuI (rp σ a g) a i v = rp σ a (qu g i v) := by
  unfold zuI rp
  refine Prod.ext rfl (Prod.ext ?_ rfl)
  funext c j
  dsimp only
  unfold zu qu
  by_cases e : c = a
  · subst e
    simp only [true_and, if_true]
  · simp only [e, false_and, if_false]
theorem rp_self : rp σ a (σ.2.1 a) = σ := by
  unfold rp
  refine Prod.ext rfl (Prod.ext ?_ rfl)
  funext c
  dsimp only
  by_cases e : c = a
  · rw [if_pos e, e]
  · rw [if_neg e]
/-- names as numbers -/
def qname (l : List Int32) : Int := l.foldl (fun a c => 27 * a + c.toInt - 96) 0
def RNm (σ : zS) (m : Nat) (P : qP) (nm : Nat → List Int32) : Prop := ∀ s, s < P.1 → σ.2.2.2 (m + 3) s = Int64.ofInt (qname (nm s)) ∧ 1 ≤ (nm s).length ∧ (nm s).length ≤ 8 ∧ ∀ c, c ∈ nm s → 97 ≤ c.toInt ∧ c.toInt ≤ 122
/-- what the reference holds now -/
def RN (σ : zS) (m : Nat) (P : qP) (M : qM) : Prop := rsh σ m ∧ rset σ m P ∧ RM (σ.2.1 (m + 4)) P M ∧ qI P M
def RHi (σ : zS) (m : Nat) (P : qP) (H : List qM) : Prop := σ.2.1 m 12 = zi H.length ∧ H.length ≤ 6 ∧ ∀ k, k < H.length → ∃ N, H[k]? = some N ∧ RM (fun j => σ.2.1 (m + 9) (33894 * (H.length - 1 - k) + j)) P N
def RSv (σ : zS) (m : Nat) (P : qP) (S : Option qM) : Prop := σ.2.1 m 13 = zb S.isSome ∧ ∀ N, S = some N → RM (σ.2.1 (m + 8)) P N
def RTx (σ : zS) (m : Nat) (tx : List Int32) : Prop := σ.2.1 m 15 = zi tx.length ∧ tx.length ≤ 300 ∧ ∀ i, i < tx.length → σ.2.1 (m + 10) i = tx.getD i 0
def ROu (σ : zS) (m : Nat) (ou : List Int32) : Prop := σ.2.1 m 31 = zi ou.length ∧ ou.length ≤ 8000 ∧ ∀ i, i < ou.length → σ.2.1 (m + 14) i = ou.getD i 0
def RI (σ : zS) (m : Nat) (P : qP) (nm : Nat → List Int32) (M : qM) (H : List qM) (S : Option qM) (tx : List Int32) (er ea : Int) (ou : List Int32) : Prop :=
  RN σ m P M ∧ RNm σ m P nm ∧ RHi σ m P H ∧ RSv σ m P S ∧ RTx σ m tx ∧ (σ.2.1 m 22 = zi er ∧ σ.2.1 m 23 = zi ea) ∧ ROu σ m ou
end RX
