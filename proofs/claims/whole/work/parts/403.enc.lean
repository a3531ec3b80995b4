/-! The reference's numbers and lists out of the flow. -/
def pS (M : qM) (k : Nat) : Int :=
  if k < 37 then M.1 k else if k < 43 then M.1 k - 1 else if k < 59 then M.1 (43 + (4 * ((k - 43) % 4) + (k - 43) / 4)) else if k < 67 then M.1 (59 + (4 * ((k - 59) % 2) + (k - 59) / 2)) else if k < 74 then M.1 k
  else if k < 90 then M.1 (74 + (4 * ((k - 74) % 4) + (k - 74) / 4)) else if k < 98 then M.1 (90 + (4 * ((k - 90) % 2) + (k - 90) / 2)) else M.1 k
def qen (P : qP) (c n : Nat) : Int := if c < 16 then ((n % 200 : Nat) : Int) else ((20000 * qkey P n + qres P n : Nat) : Int)
def qins (b : Int) (l : List Int) : List Int := if b = -1 then l else l.take b.toNat ++ (-1) :: l.drop b.toNat
def pR (P : qP) (M : qM) (c : Nat) : List Int := if c < 24 then qins (M.2.2 c) ((M.2.1 c).map (qen P c)) else (M.2.1 c).map (qen P (qch c))
def RM (A : Nat → Int32) (P : qP) (M : qM) : Prop := RA A (pS M) (pR P M)
theorem RA_congr {A : Nat → Int32} {S S2 : Nat → Int} {R R2 : Nat → List Int} (h : RA A S R) (hS : ∀ k, k < 144 → S k = S2 k) (hR : ∀ c, c < 78 → R c = R2 c) : RA A S2 R2 :=
  ⟨fun k hk => by rw [← hS k hk]; exact h.1 k hk, fun c hc => by rw [← hR c hc]; exact h.2 c hc⟩
theorem pS_lo {M : qM} {k : Nat} (h : k < 37 ∨ 67 ≤ k ∧ k < 74 ∨ 98 ≤ k) : pS M k = M.1 k := by
  unfold pS
  rcases h with h | h | h
  · rw [if_pos h]
  · rw [if_neg (by omega), if_neg (by omega), if_neg (by omega), if_neg (by omega), if_pos h.2]
  · rw [if_neg (by omega), if_neg (by omega), if_neg (by omega), if_neg (by omega), if_neg (by omega), if_neg (by omega), if_neg (by omega)]
theorem pS_turn {M : qM} {r : Nat} (h : r < 6) : pS M (37 + r) = M.1 (37 + r) - 1 := by
  unfold pS
  rw [if_neg (by omega), if_pos (by omega)]
theorem pS_bi {M : qM} {s i : Nat} (hs : s < 4) (hi : i < 4) : pS M (43 + (4 * s + i)) = M.1 (43 + (4 * i + s)) := by
  unfold pS
  rw [if_neg (by omega), if_neg (by omega), if_pos (by omega), show 43 + (4 * ((43 + (4 * s + i) - 43) % 4) + (43 + (4 * s + i) - 43) / 4) = 43 + (4 * i + s) from by omega]
theorem pS_bo {M : qM} {k i : Nat} (hk : k < 2) (hi : i < 4) : pS M (59 + (2 * i + k)) = M.1 (43 + (4 * (4 + k) + i)) := by
  unfold pS
  rw [if_neg (by omega), if_neg (by omega), if_neg (by omega), if_pos (by omega), show 59 + (4 * ((59 + (2 * i + k) - 59) % 2) + (59 + (2 * i + k) - 59) / 2) = 43 + (4 * (4 + k) + i) from by omega]
theorem pS_ai {M : qM} {s i : Nat} (hs : s < 4) (hi : i < 4) : pS M (74 + (4 * s + i)) = M.1 (74 + (4 * i + s)) := by
  unfold pS
  rw [if_neg (by omega), if_neg (by omega), if_neg (by omega), if_neg (by omega), if_neg (by omega), if_pos (by omega), show 74 + (4 * ((74 + (4 * s + i) - 74) % 4) + (74 + (4 * s + i) - 74) / 4) = 74 + (4 * i + s) from by omega]
theorem pS_ao {M : qM} {k i : Nat} (hk : k < 2) (hi : i < 4) : pS M (90 + (2 * i + k)) = M.1 (74 + (4 * (4 + k) + i)) := by
  unfold pS
  rw [if_neg (by omega), if_neg (by omega), if_neg (by omega), if_neg (by omega), if_neg (by omega), if_neg (by omega), if_pos (by omega), show 90 + (4 * ((90 + (2 * i + k) - 90) % 2) + (90 + (2 * i + k) - 90) / 2) = 74 + (4 * (4 + k) + i) from by omega]
/-- each number of the reference is one of these -/
theorem pS_ix {k : Nat} (h : k < 144) : (k < 37 ∨ 67 ≤ k ∧ k < 74 ∨ 98 ≤ k) ∨ (∃ r, r < 6 ∧ k = 37 + r) ∨ (∃ s i, s < 4 ∧ i < 4 ∧ k = 43 + (4 * s + i)) ∨ (∃ j i, j < 2 ∧ i < 4 ∧ k = 59 + (2 * i + j)) ∨ (∃ s i, s < 4 ∧ i < 4 ∧ k = 74 + (4 * s + i)) ∨ ∃ j i, j < 2 ∧ i < 4 ∧ k = 90 + (2 * i + j) := by
  by_cases h1 : k < 37 ∨ 67 ≤ k ∧ k < 74 ∨ 98 ≤ k
  · exact Or.inl h1
  · by_cases h2 : k < 43
    · exact Or.inr (Or.inl ⟨k - 37, by omega, by omega⟩)
    · by_cases h3 : k < 59
      · exact Or.inr (Or.inr (Or.inl ⟨(k - 43) / 4, (k - 43) % 4, by omega, by omega, by omega⟩))
      · by_cases h4 : k < 67
        · exact Or.inr (Or.inr (Or.inr (Or.inl ⟨(k - 59) % 2, (k - 59) / 2, by omega, by omega, by omega⟩)))
        · by_cases h5 : k < 90
          · exact Or.inr (Or.inr (Or.inr (Or.inr (Or.inl ⟨(k - 74) / 4, (k - 74) % 4, by omega, by omega, by omega⟩))))
          · exact Or.inr (Or.inr (Or.inr (Or.inr (Or.inr ⟨(k - 90) % 2, (k - 90) / 2, by omega, by omega, by omega⟩))))
/-- two flows of the same numbers but for some -/
theorem pS_same {M N : qM} (h : ∀ k, k < 144 → N.1 k = M.1 k) : ∀ k, k < 144 → pS N k = pS M k := by
  intro k hk
  unfold pS
  split
  · exact h _ (by omega)
  · split
    · rw [h _ (by omega)]
    · split
      · exact h _ (by omega)
      · split
        · exact h _ (by omega)
        · split
          · exact h _ (by omega)
          · split
            · exact h _ (by omega)
            · split
              · exact h _ (by omega)
              · exact h _ (by omega)
theorem rb_ci {s i : Nat} (hs : s < 4) (hi : i < 4) : rb (4 * i + s) = 144 + 202 * (4 * s + i) := by
  unfold rb
  rw [if_pos (by omega)]
  omega
theorem rb_co {k i : Nat} (hk : k < 2) (hi : i < 4) : rb (4 * (4 + k) + i) = 3376 + 802 * (2 * i + k) := by
  unfold rb
  rw [if_neg (by omega), if_pos (by omega)]
  omega
theorem rb_ki {s i : Nat} (hs : s < 4) (hi : i < 4) : rb (30 + (4 * i + s)) = 14598 + 202 * (4 * s + i) := by
  unfold rb
  rw [if_neg (by omega), if_neg (by omega), if_neg (by omega), if_neg (by omega), if_neg (by omega), if_pos (by omega)]
  omega
theorem rb_ko {k i : Nat} (hk : k < 2) (hi : i < 4) : rb (30 + (4 * (4 + k) + i)) = 17830 + 802 * (2 * i + k) := by
  unfold rb
  rw [if_neg (by omega), if_neg (by omega), if_neg (by omega), if_neg (by omega), if_neg (by omega), if_neg (by omega), if_pos (by omega)]
  omega
theorem rb_di {s i : Nat} (hs : s < 4) (hi : i < 4) : rb (54 + (4 * i + s)) = 24246 + 202 * (4 * s + i) := by
  unfold rb
  rw [if_neg (by omega), if_neg (by omega), if_neg (by omega), if_neg (by omega), if_neg (by omega), if_neg (by omega), if_neg (by omega), if_pos (by omega)]
  omega
theorem rb_do {k i : Nat} (hk : k < 2) (hi : i < 4) : rb (54 + (4 * (4 + k) + i)) = 27478 + 802 * (2 * i + k) := by
  unfold rb
  rw [if_neg (by omega), if_neg (by omega), if_neg (by omega), if_neg (by omega), if_neg (by omega), if_neg (by omega), if_neg (by omega), if_neg (by omega)]
  omega
theorem rb_op {k : Nat} (hk : k < 2) : rb (24 + k) = 9792 + 801 * k := by
  unfold rb
  rw [if_neg (by omega), if_neg (by omega), if_pos (by omega)]
  omega
theorem rb_cl {k : Nat} (hk : k < 2) : rb (26 + k) = 11394 + 801 * k := by
  unfold rb
  rw [if_neg (by omega), if_neg (by omega), if_neg (by omega), if_pos (by omega)]
  omega
theorem rb_sh {k : Nat} (hk : k < 2) : rb (28 + k) = 12996 + 801 * k := by
  unfold rb
  rw [if_neg (by omega), if_neg (by omega), if_neg (by omega), if_neg (by omega), if_pos (by omega)]
  omega
theorem rcap_a {c : Nat} (h : c < 16 ∨ 30 ≤ c ∧ c < 46 ∨ 54 ≤ c ∧ c < 70) : rcap c = 201 := by
  unfold rcap
  rcases h with h | h | h
  · rw [if_pos h]
  · rw [if_neg (by omega), if_neg (by omega), if_neg (by omega), if_pos (by omega)]
  · rw [if_neg (by omega), if_neg (by omega), if_neg (by omega), if_neg (by omega), if_neg (by omega), if_pos (by omega)]
theorem rcap_b {c : Nat} (h : 16 ≤ c ∧ c < 30 ∨ 46 ≤ c ∧ c < 54 ∨ 70 ≤ c) : 800 ≤ rcap c := by
  unfold rcap
  split
  · omega
  · split
    · omega
    · split
      · omega
      · split
        · omega
        · split
          · omega
          · split <;> omega
theorem rcap_c {c : Nat} (h : 16 ≤ c ∧ c < 24) : rcap c = 801 := by
  unfold rcap
  rw [if_neg (by omega), if_pos (by omega)]
section AD
variable {τ : zS} {s i k : Nat}
theorem f_channelIn : fX10_channelIn τ (zi s) (zi i) = some (τ, zi ((4 * s + i : Nat) : Int)) := by unfold fX10_channelIn; rw [zi_mul, zi_add]; congr 2
theorem f_channelOut : fX10_channelOut τ (zi i) (zi k) = some (τ, zi ((2 * i + k : Nat) : Int)) := by unfold fX10_channelOut; rw [zi_mul, zi_add]; congr 2
theorem f_toInstance (hs : s < 4) (hi : i < 4) : fX10_toInstance τ (zi s) (zi i) = some (τ, zi (rb (4 * i + s))) := by
  unfold fX10_toInstance
  rw [f_channelIn, Option.bind_some, zi_mul, zi_add, rb_ci hs hi]
  congr 3
theorem f_toSink (hk : k < 2) (hi : i < 4) : fX10_toSink τ (zi i) (zi k) = some (τ, zi (rb (4 * (4 + k) + i))) := by
  unfold fX10_toSink
  rw [f_channelOut, Option.bind_some, zi_mul, zi_add, rb_co hk hi]
  congr 3
theorem f_keptIn (hs : s < 4) (hi : i < 4) : fX10_keptIn τ (zi s) (zi i) = some (τ, zi (rb (30 + (4 * i + s)))) := by
  unfold fX10_keptIn
  rw [f_channelIn, Option.bind_some, zi_mul, zi_add, rb_ki hs hi]
  congr 3
theorem f_keptOut (hk : k < 2) (hi : i < 4) : fX10_keptOut τ (zi i) (zi k) = some (τ, zi (rb (30 + (4 * (4 + k) + i)))) := by
  unfold fX10_keptOut
  rw [f_channelOut, Option.bind_some, zi_mul, zi_add, rb_ko hk hi]
  congr 3
theorem f_doneIn (hs : s < 4) (hi : i < 4) : fX10_doneIn τ (zi s) (zi i) = some (τ, zi (rb (54 + (4 * i + s)))) := by
  unfold fX10_doneIn
  rw [f_channelIn, Option.bind_some, zi_mul, zi_add, rb_di hs hi]
  congr 3
theorem f_doneOut (hk : k < 2) (hi : i < 4) : fX10_doneOut τ (zi i) (zi k) = some (τ, zi (rb (54 + (4 * (4 + k) + i)))) := by
  unfold fX10_doneOut
  rw [f_channelOut, Option.bind_some, zi_mul, zi_add, rb_do hk hi]
  congr 3
theorem f_open (hk : k < 2) : fX10_results τ (zi 9792) (zi k) = some (τ, zi (rb (24 + k))) := by
  unfold fX10_results
  rw [zi_mul, zi_add, rb_op hk]
  congr 3
theorem f_closed (hk : k < 2) : fX10_results τ (zi 11394) (zi k) = some (τ, zi (rb (26 + k))) := by
  unfold fX10_results
  rw [zi_mul, zi_add, rb_cl hk]
  congr 3
theorem f_shown (hk : k < 2) : fX10_results τ (zi 12996) (zi k) = some (τ, zi (rb (28 + k))) := by
  unfold fX10_results
  rw [zi_mul, zi_add, rb_sh hk]
  congr 3
end AD
