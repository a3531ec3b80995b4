/-! Loops of the reference over its row. -/
theorem rfor {σ : zS} {m : Nat} {step : zS × Int32 → Option ((zS × Int32) ⊕ zS)} (a n : Nat) (I : Nat → (Nat → Int32) → Prop) (hs : ∀ i A, a ≤ i → i < n → I i A → ∃ B, step (rput σ m A, zi (i : Int)) = some (.inl (rput σ m B, zi (i : Int) + zi 1)) ∧ I (i + 1) B)
    (he : ∀ A, I n A → step (rput σ m A, zi (n : Int)) = some (.inr (rput σ m A))) (han : a ≤ n) (hn : n < 1000000) {A : Nat → Int32} {x : Int} (hx : x = (a : Int)) (h : I a A) : ∃ B, zloop step zfuel (rput σ m A, zi x) = some (rput σ m B) ∧ I n B := by
  subst hx
  have key := zloop_run (step := step) (n - a) (fun i z => ∃ A, z = (rput σ m A, zi ((a + i : Nat) : Int)) ∧ I (a + i) A) (fun o => ∃ B, o = rput σ m B ∧ I n B) (by
    rintro i z hi ⟨A, rfl, hA⟩
    obtain ⟨B, e, hB⟩ := hs (a + i) A (by omega) (by omega) hA
    exact Or.inl ⟨_, e, B, by rw [zi_add]; rfl, hB⟩) (by
    rintro z ⟨A, rfl, hA⟩
    rw [show a + (n - a) = n from by omega] at hA ⊢
    exact ⟨_, he A hA, A, rfl, hA⟩) (zfuel_lt (by omega)) (s := (rput σ m A, zi (a : Int))) ⟨A, rfl, h⟩
  obtain ⟨o, e, B, rfl, hB⟩ := key
  exact ⟨B, e, hB⟩
/-- the order in which the reference goes through channels -/
def qord (c : Nat) : Nat := if c < 16 then 6 * (c / 4) + c % 4 else 6 * (c % 4) + 4 + (c / 4 - 4)
theorem qord_i {s i : Nat} (hs : s < 4) (hi : i < 4) : qord (4 * i + s) = 6 * i + s := by unfold qord; rw [if_pos (by omega)]; omega
theorem qord_o {k i : Nat} (hi : i < 4) : qord (4 * (4 + k) + i) = 6 * i + 4 + k := by unfold qord; rw [if_neg (by omega)]; omega
theorem qord_lt {c : Nat} (h : c < 24) : qord c < 24 := by unfold qord; split <;> omega
theorem qord_inj0 : (List.range 24).all (fun c => (List.range 24).all (fun d => !(qord c == qord d) || c == d)) = true := by decide +kernel
theorem qord_inj {c d : Nat} (hc : c < 24) (hd : d < 24) (h : qord c = qord d) : c = d := by
  have := List.all_eq_true.mp (List.all_eq_true.mp qord_inj0 c (List.mem_range.mpr hc)) d (List.mem_range.mpr hd)
  simpa [h] using this
def Rt (b t : Nat) (F R : Nat → List Int) : Nat → List Int := fun d => if b ≤ d ∧ d < b + 24 ∧ qord (d - b) < t then F (d - b) else R d
theorem Rt_0 (b : Nat) (F R : Nat → List Int) : Rt b 0 F R = R := by
  funext d
  exact if_neg (by omega)
theorem Rt_succ {b t c : Nat} (F R : Nat → List Int) (hc : c < 24) (h : qord c = t) : Rt b (t + 1) F R = qu (Rt b t F R) (b + c) (F c) := by
  funext d
  unfold Rt
  by_cases e : d = b + c
  · subst e
    rw [qu_at, if_pos (by rw [show b + c - b = c from by omega]; omega), show b + c - b = c from by omega]
  · rw [qu_ne e]
    by_cases h2 : b ≤ d ∧ d < b + 24
    · have : qord (d - b) ≠ t := fun q => e (by have := qord_inj (c := d - b) (d := c) (by omega) hc (by omega); omega)
      by_cases h3 : qord (d - b) < t
      · rw [if_pos (by omega), if_pos (by omega)]
      · rw [if_neg (by omega), if_neg (by omega)]
    · rw [if_neg (by omega), if_neg (by omega)]
theorem Rt_at {b t c : Nat} {F R : Nat → List Int} (hc : c < 24) (h : t ≤ qord c) : Rt b t F R (b + c) = R (b + c) := if_neg (by rw [show b + c - b = c from by omega]; omega)
theorem Rt_out {b t d : Nat} {F R : Nat → List Int} (h : d < b ∨ b + 24 ≤ d) : Rt b t F R d = R d := if_neg (by omega)
theorem Rt_all {b c : Nat} {F R : Nat → List Int} (hc : c < 24) : Rt b 24 F R (b + c) = F c := by
  unfold Rt
  have := qord_lt hc
  rw [if_pos (by rw [show b + c - b = c from by omega]; omega), show b + c - b = c from by omega]
section RL
variable {σ : zS} {m : Nat} {A : Nat → Int32} {S : Nat → Int} {R : Nat → List Int} {P : qP} {M : qM}
theorem zi_nle {a b : Int} (h1 : -2147483648 ≤ b) (h2 : a < 2147483648) (h : b < a) : ¬ zi a ≤ zi b := by
  rw [zi_le (by omega) (by omega) (by omega) (by omega)]; omega
theorem zi_yle {a b : Int} (h1 : -2147483648 ≤ a) (h2 : b < 2147483648) (h : a ≤ b) : zi a ≤ zi b := by
  rw [zi_le (by omega) (by omega) (by omega) (by omega)]; omega
/-- a pass through all channels: inner steps at a source's, at a sink's channel -/
theorem rpass {step1 step2 : Int32 → zS × Int32 → Option ((zS × Int32) ⊕ zS)} {step : zS × Int32 → Option ((zS × Int32) ⊕ zS)} (b : Nat) (F : Nat → List Int)
    (h1 : ∀ i s A, i < 4 → s < 4 → RA A S (Rt b (6 * i + s) F R) → ∃ B, step1 (zi (i : Int)) (rput σ m A, zi (s : Int)) = some (.inl (rput σ m B, zi (s : Int) + zi 1)) ∧ RA B S (qu (Rt b (6 * i + s) F R) (b + (4 * i + s)) (F (4 * i + s))))
    (e1 : ∀ u A, step1 u (rput σ m A, zi (4 : Nat)) = some (.inr (rput σ m A)))
    (h2 : ∀ i k A, i < 4 → k < 2 → RA A S (Rt b (6 * i + 4 + k) F R) → ∃ B, step2 (zi (i : Int)) (rput σ m A, zi (k : Int)) = some (.inl (rput σ m B, zi (k : Int) + zi 1)) ∧ RA B S (qu (Rt b (6 * i + 4 + k) F R) (b + (4 * (4 + k) + i)) (F (4 * (4 + k) + i))))
    (e2 : ∀ u A, step2 u (rput σ m A, zi (2 : Nat)) = some (.inr (rput σ m A)))
    (h3 : ∀ (i : Nat) (A B C : Nat → Int32), i < 4 → zloop (step1 (zi (i : Int))) zfuel (rput σ m A, zi 0) = some (rput σ m B) → zloop (step2 (zi (i : Int))) zfuel (rput σ m B, zi 0) = some (rput σ m C) → step (rput σ m A, zi (i : Int)) = some (.inl (rput σ m C, zi (i : Int) + zi 1)))
    (e3 : ∀ A, step (rput σ m A, zi (4 : Nat)) = some (.inr (rput σ m A))) (h0 : RA A S R) : ∃ B, zloop step zfuel (rput σ m A, zi 0) = some (rput σ m B) ∧ RA B S (Rt b 24 F R) := by
  refine rfor (step := step) 0 4 (fun i A => RA A S (Rt b (6 * i) F R)) (fun i A _ hi hA => ?_) (fun A _ => e3 A) (by omega) (by omega) rfl (by rw [Rt_0]; exact h0)
  obtain ⟨B, eB, hB⟩ := rfor (step := step1 (zi (i : Int))) 0 4 (fun s A => RA A S (Rt b (6 * i + s) F R)) (fun s A _ hs hA => by
    obtain ⟨B, e, hB⟩ := h1 i s A hi hs hA
    exact ⟨B, e, by rw [← Nat.add_assoc, Rt_succ (c := 4 * i + s) F R (by omega) (qord_i hs hi)]; exact hB⟩) (fun A _ => e1 _ A) (by omega) (by omega) (x := 0) rfl hA
  obtain ⟨C, eC, hC⟩ := rfor (step := step2 (zi (i : Int))) 0 2 (fun k A => RA A S (Rt b (6 * i + 4 + k) F R)) (fun k A _ hk hA => by
    obtain ⟨B, e, hB⟩ := h2 i k A hi hk hA
    exact ⟨B, e, by rw [← Nat.add_assoc, Rt_succ (c := 4 * (4 + k) + i) F R (by omega) (qord_o hi)]; exact hB⟩) (fun A _ => e2 _ A) (by omega) (by omega) (x := 0) rfl hB
  exact ⟨C, h3 i A B C hi eB eC, by rw [show 6 * (i + 1) = 6 * i + 4 + 2 from by omega]; exact hC⟩
theorem ra_emptiesKept (h : rsh σ m) (hA : RA A S R) : ∃ B, fX10_emptiesKept (rput σ m A) m = some (rput σ m B) ∧ RA B S (Rt 30 24 (fun _ => []) R) := by
  obtain ⟨B, e, hB⟩ := rpass (step1 := sX10_emptiesKept_9 m) (step2 := sX10_emptiesKept_31 m) (step := sX10_emptiesKept_2 m) 30 (fun _ => []) (fun i s A hi hs hA => by
    obtain ⟨B, e, hB⟩ := ra_empties (30 + (4 * i + s)) h hA rfl (by omega)
    refine ⟨B, ?_, hB⟩
    unfold sX10_emptiesKept_9 sX10_emptiesKept_9b
    dsimp only
    rw [if_neg (zi_nle (a := 4) (by omega) (by omega) (by omega)), f_keptIn hs hi, Option.bind_some, rd_ck h, e, Option.bind_some]) (fun u A => by
    unfold sX10_emptiesKept_9 sX10_emptiesKept_9b
    exact if_pos (zi_yle (a := 4) (by omega) (by omega) (by omega))) (fun i k A hi hk hA => by
    obtain ⟨B, e, hB⟩ := ra_empties (30 + (4 * (4 + k) + i)) h hA rfl (by omega)
    refine ⟨B, ?_, hB⟩
    unfold sX10_emptiesKept_31 sX10_emptiesKept_31b
    dsimp only
    rw [if_neg (zi_nle (a := 2) (by omega) (by omega) (by omega)), f_keptOut hk hi, Option.bind_some, rd_ck h, e, Option.bind_some]) (fun u A => by
    unfold sX10_emptiesKept_31 sX10_emptiesKept_31b
    exact if_pos (zi_yle (a := 2) (by omega) (by omega) (by omega))) (fun i A B C hi e1 e2 => by
    unfold sX10_emptiesKept_2 sX10_emptiesKept_2b
    dsimp only
    rw [if_neg (zi_nle (a := 4) (by omega) (by omega) (by omega)), e1, Option.bind_some, e2, Option.bind_some]) (fun A => by
    unfold sX10_emptiesKept_2 sX10_emptiesKept_2b
    exact if_pos (zi_yle (a := 4) (by omega) (by omega) (by omega))) hA
  exact ⟨B, by unfold fX10_emptiesKept; rw [e, Option.bind_some], hB⟩
theorem ra_laysKept (h : rsh σ m) (hA : RA A S R) : ∃ B, fX10_laysKept (rput σ m A) m = some (rput σ m B) ∧ RA B S (Rt 54 24 (fun c => R (30 + c)) R) := by
  have hcap : ∀ c, c < 24 → (R (30 + c)).length ≤ rcap (54 + c) := by
    intro c hc
    have h1 := (hA.2 (30 + c) (by omega)).2.1
    have h2 : rcap (30 + c) = rcap (54 + c) := by
      by_cases e : c < 16
      · rw [rcap_a (by omega), rcap_a (by omega)]
      · unfold rcap
        rw [if_neg (by omega), if_neg (by omega), if_neg (by omega), if_neg (by omega), if_pos (by omega), if_neg (by omega), if_neg (by omega), if_neg (by omega), if_neg (by omega), if_neg (by omega), if_neg (by omega)]
    omega
  obtain ⟨B, e, hB⟩ := rpass (step1 := sX10_laysKept_9 m) (step2 := sX10_laysKept_36 m) (step := sX10_laysKept_2 m) 54 (fun c => R (30 + c)) (fun i s A hi hs hA => by
    have eq : Rt 54 (6 * i + s) (fun c => R (30 + c)) R (30 + (4 * i + s)) = R (30 + (4 * i + s)) := Rt_out (by omega)
    obtain ⟨B, e, hB⟩ := ra_becomes (30 + (4 * i + s)) (54 + (4 * i + s)) h hA rfl rfl (by omega) (by omega) (by omega) (by rw [eq]; exact hcap _ (by omega))
    refine ⟨B, ?_, by rw [eq] at hB; exact hB⟩
    unfold sX10_laysKept_9 sX10_laysKept_9b
    dsimp only
    rw [if_neg (zi_nle (a := 4) (by omega) (by omega) (by omega)), f_doneIn hs hi, Option.bind_some, f_keptIn hs hi, Option.bind_some, rd_ck h, e, Option.bind_some]) (fun u A => by
    unfold sX10_laysKept_9 sX10_laysKept_9b
    exact if_pos (zi_yle (a := 4) (by omega) (by omega) (by omega))) (fun i k A hi hk hA => by
    have eq : Rt 54 (6 * i + 4 + k) (fun c => R (30 + c)) R (30 + (4 * (4 + k) + i)) = R (30 + (4 * (4 + k) + i)) := Rt_out (by omega)
    obtain ⟨B, e, hB⟩ := ra_becomes (30 + (4 * (4 + k) + i)) (54 + (4 * (4 + k) + i)) h hA rfl rfl (by omega) (by omega) (by omega) (by rw [eq]; exact hcap _ (by omega))
    refine ⟨B, ?_, by rw [eq] at hB; exact hB⟩
    unfold sX10_laysKept_36 sX10_laysKept_36b
    dsimp only
    rw [if_neg (zi_nle (a := 2) (by omega) (by omega) (by omega)), f_doneOut hk hi, Option.bind_some, f_keptOut hk hi, Option.bind_some, rd_ck h, e, Option.bind_some]) (fun u A => by
    unfold sX10_laysKept_36 sX10_laysKept_36b
    exact if_pos (zi_yle (a := 2) (by omega) (by omega) (by omega))) (fun i A B C hi e1 e2 => by
    unfold sX10_laysKept_2 sX10_laysKept_2b
    dsimp only
    rw [if_neg (zi_nle (a := 4) (by omega) (by omega) (by omega)), e1, Option.bind_some, e2, Option.bind_some]) (fun A => by
    unfold sX10_laysKept_2 sX10_laysKept_2b
    exact if_pos (zi_yle (a := 4) (by omega) (by omega) (by omega))) hA
  exact ⟨B, by unfold fX10_laysKept; rw [e, Option.bind_some], hB⟩
theorem ra_laysDone (h : rsh σ m) (hA : RA A S R) (hcap : ∀ c, c < 24 → (R (54 + c)).length ≤ rcap c) : ∃ B, fX10_laysDone (rput σ m A) m = some (rput σ m B) ∧ RA B S (Rt 0 24 (fun c => R (54 + c)) R) := by
  obtain ⟨B, e, hB⟩ := rpass (step1 := sX10_laysDone_9 m) (step2 := sX10_laysDone_36 m) (step := sX10_laysDone_2 m) 0 (fun c => R (54 + c)) (fun i s A hi hs hA => by
    have eq : Rt 0 (6 * i + s) (fun c => R (54 + c)) R (54 + (4 * i + s)) = R (54 + (4 * i + s)) := Rt_out (by omega)
    obtain ⟨B, e, hB⟩ := ra_becomes (54 + (4 * i + s)) (0 + (4 * i + s)) h hA rfl rfl (by omega) (by omega) (by omega) (by rw [eq, Nat.zero_add]; exact hcap _ (by omega))
    refine ⟨B, ?_, by rw [eq] at hB; exact hB⟩
    rw [Nat.zero_add] at e
    unfold sX10_laysDone_9 sX10_laysDone_9b
    dsimp only
    rw [if_neg (zi_nle (a := 4) (by omega) (by omega) (by omega)), f_toInstance hs hi, Option.bind_some, f_doneIn hs hi, Option.bind_some, rd_ck h, e, Option.bind_some]) (fun u A => by
    unfold sX10_laysDone_9 sX10_laysDone_9b
    exact if_pos (zi_yle (a := 4) (by omega) (by omega) (by omega))) (fun i k A hi hk hA => by
    have eq : Rt 0 (6 * i + 4 + k) (fun c => R (54 + c)) R (54 + (4 * (4 + k) + i)) = R (54 + (4 * (4 + k) + i)) := Rt_out (by omega)
    obtain ⟨B, e, hB⟩ := ra_becomes (54 + (4 * (4 + k) + i)) (0 + (4 * (4 + k) + i)) h hA rfl rfl (by omega) (by omega) (by omega) (by rw [eq, Nat.zero_add]; exact hcap _ (by omega))
    refine ⟨B, ?_, by rw [eq] at hB; exact hB⟩
    rw [Nat.zero_add] at e
    unfold sX10_laysDone_36 sX10_laysDone_36b
    dsimp only
    rw [if_neg (zi_nle (a := 2) (by omega) (by omega) (by omega)), f_toSink hk hi, Option.bind_some, f_doneOut hk hi, Option.bind_some, rd_ck h, e, Option.bind_some]) (fun u A => by
    unfold sX10_laysDone_36 sX10_laysDone_36b
    exact if_pos (zi_yle (a := 2) (by omega) (by omega) (by omega))) (fun i A B C hi e1 e2 => by
    unfold sX10_laysDone_2 sX10_laysDone_2b
    dsimp only
    rw [if_neg (zi_nle (a := 4) (by omega) (by omega) (by omega)), e1, Option.bind_some, e2, Option.bind_some]) (fun A => by
    unfold sX10_laysDone_2 sX10_laysDone_2b
    exact if_pos (zi_yle (a := 4) (by omega) (by omega) (by omega))) hA
  exact ⟨B, by unfold fX10_laysDone; rw [e, Option.bind_some], hB⟩
end RL
