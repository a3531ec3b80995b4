/-! THE REFERENCE'S ROW. m: its address; A: its row of numbers 'now'. -/
def rput (σ : zS) (m : Nat) (A : Nat → Int32) : zS := (σ.1, (fun a => if a = m + 4 then A else σ.2.1 a), σ.2.2)
/-- the kinds and references of the reference -/
def rsh (σ : zS) (m : Nat) : Prop :=
  (σ.1 m).1 = 14 ∧ (σ.2.2.1 m 3 = some (m + 1) ∧ σ.2.2.1 m 4 = some (m + 2) ∧ σ.2.2.1 m 5 = some (m + 3) ∧ σ.2.2.1 m 6 = some (m + 4) ∧ σ.2.2.1 m 7 = some (m + 5) ∧ σ.2.2.1 m 8 = some (m + 6) ∧ σ.2.2.1 m 9 = some (m + 7) ∧ σ.2.2.1 m 10 = some (m + 8) ∧ σ.2.2.1 m 11 = some (m + 9) ∧ σ.2.2.1 m 14 = some (m + 10) ∧ σ.2.2.1 m 27 = some (m + 11) ∧ σ.2.2.1 m 28 = some (m + 12) ∧ σ.2.2.1 m 29 = some (m + 13) ∧ σ.2.2.1 m 30 = some (m + 14)) ∧
  (σ.1 (m + 1) = (1, 4) ∧ σ.1 (m + 2) = (1, 4) ∧ σ.1 (m + 3) = (3, 4) ∧ σ.1 (m + 4) = (1, 33894) ∧ σ.1 (m + 5) = (1, 33894) ∧ σ.1 (m + 6) = (1, 33894) ∧ σ.1 (m + 7) = (1, 33894) ∧ σ.1 (m + 8) = (1, 33894) ∧ σ.1 (m + 9) = (1, 203364) ∧ σ.1 (m + 10) = (2, 300) ∧ σ.1 (m + 11) = (1, 4) ∧ σ.1 (m + 12) = (1, 4) ∧ σ.1 (m + 13) = (3, 4) ∧ σ.1 (m + 14) = (2, 9000))
/-- the setup that the reference has -/
def rset (σ : zS) (m : Nat) (P : qP) : Prop := σ.2.1 m 1 = zi P.1 ∧ σ.2.1 m 2 = zi P.2.1 ∧ ∀ s, s < P.1 → σ.2.1 (m + 1) s = zi (P.2.2.1 s) ∧ σ.2.1 (m + 2) s = zi (P.2.2.2 s)
theorem zaI_of {σ : zS} {a len : Nat} {x : Int} (i : Nat) (hk : σ.1 a = (1, len)) (hx : x = i) (hi : i < len) (h31 : len < 2147483648) : zaI σ a (zi x) = some (σ.2.1 a i) := by
  subst hx
  unfold zaI
  rw [hk]
  dsimp only
  have h0 : ¬ (zi (i : Int) < 0) := by rw [zi_0, zi_lt (by omega) (by omega) (by omega) (by omega)]; omega
  rw [if_pos rfl, zi_nat (by omega) (by omega), Int.toNat_natCast, if_neg (fun q => q.elim h0 (by omega))]
theorem zsI_of {σ : zS} {a len : Nat} {x : Int} {v : Int32} (i : Nat) (hk : σ.1 a = (1, len)) (hx : x = i) (hi : i < len) (h31 : len < 2147483648) : zsI σ a (zi x) v = some (zuI σ a i v) := by
  subst hx
  unfold zsI
  rw [hk]
  dsimp only
  have h0 : ¬ (zi (i : Int) < 0) := by rw [zi_0, zi_lt (by omega) (by omega) (by omega) (by omega)]; omega
  rw [if_pos rfl, zi_nat (by omega) (by omega), Int.toNat_natCast, if_neg (fun q => q.elim h0 (by omega))]
theorem rput_at {σ : zS} {m : Nat} {A : Nat → Int32} : (rput σ m A).2.1 (m + 4) = A := if_pos rfl
theorem rput_ne {σ : zS} {m a : Nat} {A : Nat → Int32} (h : a ≠ m + 4) : (rput σ m A).2.1 a = σ.2.1 a := if_neg h
theorem rput_upd {σ : zS} {m i : Nat} {A : Nat → Int32} {v : Int32} : zuI (rput σ m A) (m + 4) i v = rput σ m (qu A i v) := by
  unfold zuI rput
  refine Prod.ext rfl (Prod.ext ?_ rfl)
  funext a j
  dsimp only
  unfold zu qu
  by_cases e : a = m + 4
  · subst e
    simp only [true_and, if_true]
  · simp only [e, false_and, if_false]
theorem rput_put {σ : zS} {m : Nat} {A B : Nat → Int32} : rput (rput σ m A) m B = rput σ m B := by
  unfold rput
  refine Prod.ext rfl (Prod.ext ?_ rfl)
  funext a
  dsimp only
  by_cases e : a = m + 4
  · rw [if_pos e, if_pos e]
  · rw [if_neg e, if_neg e, if_neg e]
theorem rput_self {σ : zS} {m : Nat} : rput σ m (σ.2.1 (m + 4)) = σ := by
  unfold rput
  refine Prod.ext rfl (Prod.ext ?_ rfl)
  funext a
  dsimp only
  by_cases e : a = m + 4
  · rw [if_pos e, e]
  · rw [if_neg e]
section RD
variable {σ : zS} {m : Nat} {A : Nat → Int32} {P : qP}
theorem rd_ref {j a : Nat} (h : rsh σ m) (hr : σ.2.2.1 m j = some a) : zgR 9 j (rput σ m A) m = some a := by
  unfold zgR
  rw [if_pos (show ((rput σ m A).1 m).1 = 9 + 5 from h.1)]
  exact hr
theorem rd_now (h : rsh σ m) : zgR 9 6 (rput σ m A) m = some (m + 4) := rd_ref h h.2.1.2.2.2.1
theorem rd_recs (h : rsh σ m) : zgR 9 3 (rput σ m A) m = some (m + 1) := rd_ref h h.2.1.1
theorem rd_seeds (h : rsh σ m) : zgR 9 4 (rput σ m A) m = some (m + 2) := rd_ref h h.2.1.2.1
theorem rd_int {j : Nat} (h : rsh σ m) : zgI 9 j (rput σ m A) m = some (σ.2.1 m j) := by
  unfold zgI
  rw [if_pos (show ((rput σ m A).1 m).1 = 9 + 5 from h.1), rput_ne (by omega)]
theorem rd_src (h : rsh σ m) (hs : rset σ m P) : zgI 9 1 (rput σ m A) m = some (zi P.1) := by rw [rd_int h, hs.1]
theorem rd_snk (h : rsh σ m) (hs : rset σ m P) : zgI 9 2 (rput σ m A) m = some (zi P.2.1) := by rw [rd_int h, hs.2.1]
theorem rd_ck {α : Type} {o : Option α} (h : rsh σ m) : zck 9 (rput σ m A) m o = o := if_pos h.1
theorem rd_rec {x : Int} (s : Nat) (h : rsh σ m) (hP : qPok P) (hs : rset σ m P) (hx : x = s) (hl : s < P.1) : zaI (rput σ m A) (m + 1) (zi x) = some (zi (P.2.2.1 s)) := by
  have := hP.2.1
  rw [zaI_of s (show (rput σ m A).1 (m + 1) = (1, 4) from h.2.2.1) hx (by omega) (by omega), rput_ne (by omega), (hs.2.2 s hl).1]
theorem rd_seed {x : Int} (s : Nat) (h : rsh σ m) (hP : qPok P) (hs : rset σ m P) (hx : x = s) (hl : s < P.1) : zaI (rput σ m A) (m + 2) (zi x) = some (zi (P.2.2.2 s)) := by
  have := hP.2.1
  rw [zaI_of s (show (rput σ m A).1 (m + 2) = (1, 4) from h.2.2.2.1) hx (by omega) (by omega), rput_ne (by omega), (hs.2.2 s hl).2]
theorem rd_A {x : Int} (i : Nat) (h : rsh σ m) (hx : x = i) (hi : i < 33894) : zaI (rput σ m A) (m + 4) (zi x) = some (A i) := by
  rw [zaI_of i (show (rput σ m A).1 (m + 4) = (1, 33894) from h.2.2.2.2.2.1) hx hi (by omega), rput_at]
theorem wr_A {x : Int} {v : Int32} (i : Nat) (h : rsh σ m) (hx : x = i) (hi : i < 33894) : zsI (rput σ m A) (m + 4) (zi x) v = some (rput σ m (qu A i v)) := by
  rw [zsI_of i (show (rput σ m A).1 (m + 4) = (1, 33894) from h.2.2.2.2.2.1) hx hi (by omega), rput_upd]
end RD
/-! Lists in the row. -/
def rb (c : Nat) : Nat :=
  if c < 16 then 144 + 202 * (4 * (c % 4) + c / 4) else if c < 24 then 3376 + 802 * (2 * (c % 4) + (c / 4 - 4)) else if c < 26 then 9792 + 801 * (c - 24) else if c < 28 then 11394 + 801 * (c - 26) else if c < 30 then 12996 + 801 * (c - 28)
  else if c < 46 then 14598 + 202 * (4 * ((c - 30) % 4) + (c - 30) / 4) else if c < 54 then 17830 + 802 * (2 * ((c - 30) % 4) + ((c - 30) / 4 - 4)) else if c < 70 then 24246 + 202 * (4 * ((c - 54) % 4) + (c - 54) / 4) else 27478 + 802 * (2 * ((c - 54) % 4) + ((c - 54) / 4 - 4))
/-- how much a list may hold -/
def rcap (c : Nat) : Nat := if c < 16 then 201 else if c < 24 then 801 else if c < 30 then 800 else if c < 46 then 201 else if c < 54 then 801 else if c < 70 then 201 else 801
theorem rb_apart0 : (List.range 78).all (fun c => (List.range 78).all (fun d => c == d || decide (rb c + rcap c < rb d) || decide (rb d + rcap d < rb c)) && decide (144 ≤ rb c) && decide (rb c + rcap c < 33894)) = true := by decide +kernel
theorem rb_in {c : Nat} (h : c < 78) : 144 ≤ rb c ∧ rb c + rcap c < 33894 := by
  have := List.all_eq_true.mp rb_apart0 c (List.mem_range.mpr h)
  simp only [Bool.and_eq_true, decide_eq_true_eq] at this
  exact ⟨this.1.2, this.2⟩
theorem rb_apart {c d : Nat} (hc : c < 78) (hd : d < 78) (hne : c ≠ d) : rb c + rcap c < rb d ∨ rb d + rcap d < rb c := by
  have := List.all_eq_true.mp rb_apart0 c (List.mem_range.mpr hc)
  simp only [Bool.and_eq_true] at this
  have := List.all_eq_true.mp this.1.1 d (List.mem_range.mpr hd)
  simp only [Bool.or_eq_true, beq_iff_eq, decide_eq_true_eq] at this
  omega
def rl (A : Nat → Int32) (b cap : Nat) (l : List Int) : Prop := A b = zi l.length ∧ l.length ≤ cap ∧ ∀ i, i < l.length → A (b + 1 + i) = zi (l.getD i 0)
/-- the row holds the numbers S and the lists R -/
def RA (A : Nat → Int32) (S : Nat → Int) (R : Nat → List Int) : Prop := (∀ k, k < 144 → A k = zi (S k)) ∧ ∀ c, c < 78 → rl A (rb c) (rcap c) (R c)
theorem RA_S {A : Nat → Int32} {S : Nat → Int} {R : Nat → List Int} (h : RA A S R) {i : Nat} {v : Int} (hi : i < 144) : RA (qu A i (zi v)) (qu S i v) R := by
  refine ⟨fun k hk => ?_, fun c hc => ?_⟩
  · by_cases e : k = i
    · subst e; rw [qu_at, qu_at]
    · rw [qu_ne e, qu_ne e]; exact h.1 k hk
  · have hb := rb_in hc
    obtain ⟨h1, h2, h3⟩ := h.2 c hc
    exact ⟨by rw [qu_ne (by omega)]; exact h1, h2, fun j hj => by rw [qu_ne (by omega)]; exact h3 j hj⟩
theorem rl_other {A B : Nat → Int32} {b cap : Nat} {l : List Int} (h : rl A b cap l) (he : ∀ k, b ≤ k → k ≤ b + cap → B k = A k) : rl B b cap l := by
  obtain ⟨h1, h2, h3⟩ := h
  exact ⟨by rw [he b (by omega) (by omega)]; exact h1, h2, fun j hj => by rw [he _ (by omega) (by omega)]; exact h3 j hj⟩
/-- what lies outside a list's part stays, and the list becomes another -/
theorem RA_L {A B : Nat → Int32} {S : Nat → Int} {R : Nat → List Int} (h : RA A S R) {c : Nat} {l : List Int} (hc : c < 78) (hl : rl B (rb c) (rcap c) l) (he : ∀ k, (k < rb c ∨ rb c + rcap c < k) → B k = A k) : RA B S (qu R c l) := by
  refine ⟨fun k hk => ?_, fun d hd => ?_⟩
  · have := rb_in hc
    rw [he k (by omega)]; exact h.1 k hk
  · by_cases e : d = c
    · subst e; rw [qu_at]; exact hl
    · rw [qu_ne e]
      have := rb_apart hc hd (fun q => e q.symm)
      exact rl_other (h.2 d hd) (fun k h1 h2 => he k (by omega))
