/-! The reference's parser: what stands here, blanks, letters, digits. -/
def hc (tx : List Int32) (k : Nat) : Int := if k < tx.length then (if pc tx k < 0 then pc tx k + 256 else pc tx k) else -1
def RSh (τ : zS) (m : Nat) (tx : List Int32) : Prop := rsh τ m ∧ (τ.2.1 m 16 = zi tx.length ∧ tx.length ≤ 300 ∧ ∀ i, i < tx.length → τ.2.1 (m + 10) i = tx.getD i 0) ∧ TB tx
/-- only the token changes -/
def rfT (m : Nat) (σ τ : zS) : Prop := τ.1 = σ.1 ∧ τ.2.2 = σ.2.2 ∧ (∀ a, a ≠ m → τ.2.1 a = σ.2.1 a) ∧ ∀ j, (j < 17 ∨ 21 < j) → τ.2.1 m j = σ.2.1 m j
theorem and_255a : ∀ a : Fin 16, ∀ b : Fin 16, zi ((16 * a.val + b.val : Nat) - 128 : Int) &&& zi 255 = zi (if ((16 * a.val + b.val : Nat) : Int) - 128 < 0 then ((16 * a.val + b.val : Nat) : Int) - 128 + 256 else ((16 * a.val + b.val : Nat) : Int) - 128) := by decide
theorem and_255 (n : Fin 256) : zi ((n.val : Int) - 128) &&& zi 255 = zi (if (n.val : Int) - 128 < 0 then (n.val : Int) - 128 + 256 else (n.val : Int) - 128) := by
  have h := n.isLt
  have := and_255a ⟨n.val / 16, by omega⟩ ⟨n.val % 16, by omega⟩
  dsimp only at this
  rwa [show 16 * (n.val / 16) + n.val % 16 = n.val by omega] at this
section QA
variable {σ τ υ : zS} {m p k : Nat} {tx : List Int32}
theorem rfT_refl : rfT m σ σ := ⟨rfl, rfl, fun _ _ => rfl, fun _ _ => rfl⟩
theorem rfT_trans (h : rfT m σ τ) (g : rfT m τ υ) : rfT m σ υ := ⟨g.1.trans h.1, g.2.1.trans h.2.1, fun a a1 => (g.2.2.1 a a1).trans (h.2.2.1 a a1), fun j j1 => (g.2.2.2 j j1).trans (h.2.2.2 j j1)⟩
theorem rfT_I {j : Nat} {v : Int32} (h1 : 17 ≤ j) (h2 : j ≤ 21) : rfT m σ (zuI σ m j v) := ⟨rfl, rfl, fun a a1 => zu_off _ _ _ a1, fun i hi => by rw [zuI_rd, if_neg (by omega)]⟩
theorem RSh_T (h : RSh σ m tx) (e : rfT m σ τ) : RSh τ m tx := by
  obtain ⟨a1, a2, a3⟩ := h
  refine ⟨rsh_fr a1 e.1 (by rw [e.2.1]), ?_, a3⟩
  rw [e.2.2.2 16 (by omega), e.2.2.1 (m + 10) (by omega)]
  exact a2
theorem rlen (h : RSh τ m tx) : tx.length ≤ 300 := h.2.1.2.1
theorem r_here {x : Int} (k : Nat) (h : RSh τ m tx) (hx : x = k) (hk : k < 2000000) : fX10_here τ m (zi x) = some (τ, zi (hc tx k)) := by
  subst hx
  have hl := rlen h
  unfold fX10_here hc
  rw [rg_i h.1, Option.bind_some, h.2.1.1]
  by_cases e : k < tx.length
  · have hB := h.2.2 k e
    obtain ⟨g1, -⟩ := gD_zi tx k
    rw [if_neg (show ¬ zi (tx.length : Int) ≤ zi (k : Int) by rw [zi_le (by omega) (by omega) (by omega) (by omega)]; omega), rg_buf h.1, Option.bind_some, zaB_of k (rk_buf h.1) rfl (by omega) (by decide), Option.bind_some, h.2.1.2.2 k e, if_pos e, g1]
    have := and_255 ⟨(pc tx k + 128).toNat, by omega⟩
    dsimp only at this
    rw [show (((pc tx k + 128).toNat : Int) - 128) = pc tx k by omega] at this
    rw [this]
  · rw [if_pos ((zi_le (by omega) (by omega) (by omega) (by omega)).2 (by omega)), if_neg e]
theorem hc_in (hT : TB tx) : -1 ≤ hc tx k ∧ hc tx k < 256 := by
  unfold hc
  split
  next h =>
    have := hT k h
    split <;> omega
  next => omega
theorem hc_32 (hT : TB tx) {c : Int} (h1 : 0 ≤ c) (h2 : c < 128) : hc tx k = c ↔ k < tx.length ∧ pc tx k = c := by
  unfold hc
  by_cases h : k < tx.length
  · have := hT k h
    rw [if_pos h]
    split <;> omega
  · rw [if_neg h]
    omega
theorem hc_let (hT : TB tx) : (97 ≤ hc tx k ∧ hc tx k ≤ 122) ↔ pk tx k = 1 := by
  unfold hc pk pck
  by_cases h : k < tx.length
  · have := hT k h
    rw [if_pos h, if_pos h]
    by_cases a : 97 ≤ pc tx k ∧ pc tx k ≤ 122
    · rw [if_pos a, if_neg (by omega)]
      omega
    · rw [if_neg a]
      constructor
      · split <;> omega
      · split
        · omega
        · split <;> omega
  · rw [if_neg h, if_neg h]
    omega
theorem hc_dig (hT : TB tx) : (48 ≤ hc tx k ∧ hc tx k ≤ 57) ↔ pk tx k = 2 := by
  unfold hc pk pck
  by_cases h : k < tx.length
  · have := hT k h
    rw [if_pos h, if_pos h]
    by_cases b : 48 ≤ pc tx k ∧ pc tx k ≤ 57
    · rw [if_neg (show ¬ (97 ≤ pc tx k ∧ pc tx k ≤ 122) by omega), if_pos b, if_neg (by omega)]
      omega
    · rw [if_neg b]
      constructor
      · split <;> omega
      · split
        · omega
        · split <;> omega
  · rw [if_neg h, if_neg h]
    omega
theorem hc_end (hT : TB tx) : hc tx k = -1 ↔ pk tx k = 0 := by
  rw [ppk_0]
  unfold hc
  by_cases h : k < tx.length
  · have := hT k h
    rw [if_pos h]
    split <;> omega
  · rw [if_neg h]
    omega
theorem r_letter (h : RSh τ m tx) : fX10_isIn υ (zi (hc tx k)).toInt64 97 122 = some (υ, zb (decide (pk tx k = 1))) := by
  have h2 := hc_in (k := k) h.2.2
  rw [f_in (a := hc tx k) (l := 97) (h := 122) (l_zi ⟨by omega, by omega⟩) rfl rfl]
  congr 3
  exact decide_eq_decide.2 (hc_let h.2.2)
theorem r_digit (h : RSh τ m tx) : fX10_isIn υ (zi (hc tx k)).toInt64 48 57 = some (υ, zb (decide (pk tx k = 2))) := by
  have h2 := hc_in (k := k) h.2.2
  rw [f_in (a := hc tx k) (l := 48) (h := 57) (l_zi ⟨by omega, by omega⟩) rfl rfl]
  congr 3
  exact decide_eq_decide.2 (hc_dig h.2.2)
theorem rck9 {A : Type} {o : Option A} (h : RSh τ m tx) : zck 9 τ m o = o := if_pos h.1.1
theorem ra_skip {p0 : Nat} (h : RSh τ m tx) (h5 : τ.2.1 m 17 = zi p0) (hp : p0 ≤ tx.length) : ∃ υ, zloop (sX10_next_0 m) zfuel τ = some υ ∧ rfT m τ υ ∧ υ.2.1 m 17 = zi (pF tx p0) := by
  have hl := rlen h
  refine zloop_run (tx.length - p0) (fun k s => rfT m τ s ∧ s.2.1 m 17 = zi ((p0 + k : Nat) : Int) ∧ pF tx p0 = pto (pbl tx) (tx.length - (p0 + k)) (p0 + k)) _ ?_ ?_ (zfuel_lt (by omega)) ⟨rfT_refl, h5, rfl⟩
  · intro k s hk hp2
    obtain ⟨q1, q3, q4⟩ := hp2
    have h2 := RSh_T h q1
    have hin := hc_in (k := p0 + k) h2.2.2
    unfold sX10_next_0 sX10_next_0b
    simp only [rg_i h2.1, q3, Option.bind_some, r_here (p0 + k) h2 rfl (by omega), rck9 h2, zi_eq (show (-2147483648 : Int) ≤ hc tx (p0 + k) by omega) (show hc tx (p0 + k) < 2147483648 by omega) (show (-2147483648 : Int) ≤ 32 by omega) (show (32 : Int) < 2147483648 by omega), zi_eq (show (-2147483648 : Int) ≤ hc tx (p0 + k) by omega) (show hc tx (p0 + k) < 2147483648 by omega) (show (-2147483648 : Int) ≤ 10 by omega) (show (10 : Int) < 2147483648 by omega), hc_32 h2.2.2 (show (0 : Int) ≤ 32 by omega) (show (32 : Int) < 128 by omega), hc_32 h2.2.2 (show (0 : Int) ≤ 10 by omega) (show (10 : Int) < 128 by omega)]
    have go : pbl tx (p0 + k) = true → ∃ s2, jX10_next_26_L0 s m = some (.inl s2) ∧ rfT m τ s2 ∧ s2.2.1 m 17 = zi ((p0 + (k + 1) : Nat) : Int) ∧ pF tx p0 = pto (pbl tx) (tx.length - (p0 + (k + 1))) (p0 + (k + 1)) := by
      intro hb
      refine ⟨zuI s m 17 (zi ((p0 + (k + 1) : Nat) : Int)), ?_, rfT_trans q1 (rfT_I (by omega) (by omega)), by rw [zuI_rd, if_pos rfl], ?_⟩
      · unfold jX10_next_26_L0
        rw [rg_i h2.1, Option.bind_some, q3, zi_add, rp_i h2.1]
        rfl
      · rw [q4, pto_go hb (by omega)]
        rfl
    by_cases c1 : p0 + k < tx.length ∧ pc tx (p0 + k) = 32
    · rw [if_pos c1]
      exact Or.inl (go (decide_eq_true ⟨c1.1, Or.inl c1.2⟩))
    · rw [if_neg c1]
      by_cases c2 : p0 + k < tx.length ∧ pc tx (p0 + k) = 10
      · rw [if_pos c2]
        exact Or.inl (go (decide_eq_true ⟨c2.1, Or.inr c2.2⟩))
      · rw [if_neg c2]
        exact Or.inr ⟨s, rfl, q1, by rw [q3, q4, pto_stop (decide_eq_false (by omega))]⟩
  · intro s hp2
    obtain ⟨q1, q3, q4⟩ := hp2
    have h2 := RSh_T h q1
    have hin := hc_in (k := p0 + (tx.length - p0)) h2.2.2
    refine ⟨s, ?_, q1, ?_⟩
    · unfold sX10_next_0 sX10_next_0b
      simp only [rg_i h2.1, q3, Option.bind_some, r_here (p0 + (tx.length - p0)) h2 rfl (by omega), rck9 h2, zi_eq (show (-2147483648 : Int) ≤ hc tx (p0 + (tx.length - p0)) by omega) (show hc tx (p0 + (tx.length - p0)) < 2147483648 by omega) (show (-2147483648 : Int) ≤ 32 by omega) (show (32 : Int) < 2147483648 by omega), zi_eq (show (-2147483648 : Int) ≤ hc tx (p0 + (tx.length - p0)) by omega) (show hc tx (p0 + (tx.length - p0)) < 2147483648 by omega) (show (-2147483648 : Int) ≤ 10 by omega) (show (10 : Int) < 2147483648 by omega), hc_32 h2.2.2 (show (0 : Int) ≤ 32 by omega) (show (32 : Int) < 128 by omega), hc_32 h2.2.2 (show (0 : Int) ≤ 10 by omega) (show (10 : Int) < 128 by omega)]
      rw [if_neg (by omega), if_neg (by omega)]
    · rw [q3, q4, pto_stop (decide_eq_false (by omega))]
theorem pru_f {f c : Nat} (h : pk tx f = c) (hf : f < tx.length) : pru tx c f = pru tx c (f + 1) := by
  unfold pru
  exact pto_go (decide_eq_true h) hf
theorem ra_letters {q0 : Nat} (h : RSh τ m tx) (h6 : τ.2.1 m 17 = zi q0) (hp : q0 ≤ tx.length) : ∃ υ, zloop (sX10_next_83 m) zfuel τ = some υ ∧ rfT m τ υ ∧ υ.2.1 m 18 = τ.2.1 m 18 ∧ υ.2.1 m 17 = zi (pru tx 1 q0) := by
  have hl := rlen h
  refine zloop_run (tx.length - q0) (fun i s => (rfT m τ s ∧ s.2.1 m 18 = τ.2.1 m 18) ∧ s.2.1 m 17 = zi ((q0 + i : Nat) : Int) ∧ pru tx 1 q0 = pto (fun i => decide (pk tx i = 1)) (tx.length - (q0 + i)) (q0 + i)) _ ?_ ?_ (zfuel_lt (by omega)) ⟨⟨rfT_refl, rfl⟩, h6, rfl⟩
  · intro i s hi hp2
    obtain ⟨⟨q1, q2⟩, q3, q4⟩ := hp2
    have h2 := RSh_T h q1
    unfold sX10_next_83 sX10_next_83b
    simp only [rg_i h2.1, q3, Option.bind_some, r_here (q0 + i) h2 rfl (by omega), rck9 h2, r_letter h2]
    by_cases c : pk tx (q0 + i) = 1
    · rw [decide_eq_true c, if_neg zt, zi_add, rp_i h2.1]
      refine Or.inl ⟨zuI s m 17 (zi ((q0 + (i + 1) : Nat) : Int)), rfl, ⟨rfT_trans q1 (rfT_I (by omega) (by omega)), by rw [zuI_rd, if_neg (by omega), q2]⟩, by rw [zuI_rd, if_pos rfl], ?_⟩
      rw [q4, pto_go (decide_eq_true c) (by omega)]
      rfl
    · rw [decide_eq_false c, if_pos zf]
      exact Or.inr ⟨s, rfl, q1, q2, by rw [q3, q4, pto_stop (decide_eq_false c)]⟩
  · intro s hp2
    obtain ⟨⟨q1, q2⟩, q3, q4⟩ := hp2
    have h2 := RSh_T h q1
    have c : ¬ pk tx (q0 + (tx.length - q0)) = 1 := by
      have := (ppk_0 (tx := tx) (p := q0 + (tx.length - q0))).2 (by omega)
      omega
    refine ⟨s, ?_, q1, q2, ?_⟩
    · unfold sX10_next_83 sX10_next_83b
      simp only [rg_i h2.1, q3, Option.bind_some, r_here (q0 + (tx.length - q0)) h2 rfl (by omega), rck9 h2, r_letter h2]
      rw [decide_eq_false c, if_pos zf]
    · rw [q3, q4, pto_stop (decide_eq_false c)]
theorem ra_digits {f : Nat} (h : RSh τ m tx) (h6 : τ.2.1 m 17 = zi f) (h18 : τ.2.1 m 18 = zi f) (h21 : τ.2.1 m 21 = zi 0) (hp : f ≤ tx.length) : ∃ υ, zloop (sX10_next_152 m) zfuel τ = some υ ∧ rfT m τ υ ∧ υ.2.1 m 18 = zi f ∧ υ.2.1 m 17 = zi (pru tx 2 f) ∧ υ.2.1 m 21 = zi (pnum tx f (if pru tx 2 f - f < 3 then pru tx 2 f - f else 3)) := by
  have hl := rlen h
  refine zloop_run (tx.length - f) (fun i s => (rfT m τ s ∧ s.2.1 m 18 = zi f ∧ s.2.1 m 21 = zi (pnum tx f (if i < 3 then i else 3))) ∧ s.2.1 m 17 = zi ((f + i : Nat) : Int) ∧ pru tx 2 f = pto (fun i => decide (pk tx i = 2)) (tx.length - (f + i)) (f + i)) _ ?_ ?_ (zfuel_lt (by omega)) ⟨⟨rfT_refl, h18, h21⟩, h6, rfl⟩
  · intro i s hi hp2
    obtain ⟨⟨q1, q2, q5⟩, q3, q4⟩ := hp2
    have h2 := RSh_T h q1
    unfold sX10_next_152 sX10_next_152b
    simp only [rg_i h2.1, q3, q2, q5, Option.bind_some, r_here (f + i) h2 rfl (by omega), rck9 h2, r_digit h2, zi_sub]
    by_cases c : pk tx (f + i) = 2
    · have hd := (hc_dig (k := f + i) h2.2.2).2 c
      have hcc : hc tx (f + i) = pc tx (f + i) := by
        have hB := h2.2.2 (f + i) (by omega)
        unfold hc at hd ⊢
        rw [if_pos (by omega)] at hd ⊢
        split at hd
        · omega
        · rw [if_neg (by assumption)]
      rw [decide_eq_true c, if_neg zt]
      have go : ∀ s2 : zS, rfT m τ s2 → s2.2.1 m 18 = zi f → s2.2.1 m 17 = zi ((f + i : Nat) : Int) → s2.2.1 m 21 = zi (pnum tx f (if i + 1 < 3 then i + 1 else 3)) → ∃ s3, jX10_next_209_L152 s2 m = some (.inl s3) ∧ (rfT m τ s3 ∧ s3.2.1 m 18 = zi f ∧ s3.2.1 m 21 = zi (pnum tx f (if i + 1 < 3 then i + 1 else 3))) ∧ s3.2.1 m 17 = zi ((f + (i + 1) : Nat) : Int) ∧ pru tx 2 f = pto (fun i => decide (pk tx i = 2)) (tx.length - (f + (i + 1))) (f + (i + 1)) := by
        intro s2 a1 a2 a3 a4
        have h3 := RSh_T h a1
        refine ⟨zuI s2 m 17 (zi ((f + (i + 1) : Nat) : Int)), ?_, ⟨rfT_trans a1 (rfT_I (by omega) (by omega)), by rw [zuI_rd, if_neg (by omega), a2], by rw [zuI_rd, if_neg (by omega), a4]⟩, by rw [zuI_rd, if_pos rfl], ?_⟩
        · unfold jX10_next_209_L152
          rw [rg_i h3.1, Option.bind_some, a3, zi_add, rp_i h3.1]
          rfl
        · rw [q4, pto_go (decide_eq_true c) (by omega)]
          rfl
      by_cases h3 : i < 3
      · rw [if_neg (show ¬ zi 3 ≤ zi (((f + i : Nat) : Int) - (f : Nat)) by rw [zi_le (by omega) (by omega) (by omega) (by omega)]; omega), if_pos h3, zi_mul, zi_add, zi_sub, rp_i h2.1, Option.bind_some, hcc]
        refine Or.inl (go _ (rfT_trans q1 (rfT_I (by omega) (by omega))) (by rw [zuI_rd, if_neg (by omega), q2]) (by rw [zuI_rd, if_neg (by omega), q3]) ?_)
        rw [zuI_rd, if_pos rfl, show (if i + 1 < 3 then i + 1 else 3) = i + 1 by split <;> omega]
        rfl
      · rw [if_pos ((zi_le (by omega) (by omega) (by omega) (by omega)).2 (show (3 : Int) ≤ ((f + i : Nat) : Int) - (f : Nat) by omega))]
        refine Or.inl (go s q1 q2 q3 ?_)
        rw [q5, if_neg h3, if_neg (by omega)]
    · rw [decide_eq_false c, if_pos zf]
      have hE : pru tx 2 f = f + i := by rw [q4, pto_stop (decide_eq_false c)]
      exact Or.inr ⟨s, rfl, q1, q2, by rw [q3, hE], by rw [q5, hE, show f + i - f = i by omega]⟩
  · intro s hp2
    obtain ⟨⟨q1, q2, q5⟩, q3, q4⟩ := hp2
    have h2 := RSh_T h q1
    have c : ¬ pk tx (f + (tx.length - f)) = 2 := by
      have := (ppk_0 (tx := tx) (p := f + (tx.length - f))).2 (by omega)
      omega
    have hE : pru tx 2 f = f + (tx.length - f) := by rw [q4, pto_stop (decide_eq_false c)]
    refine ⟨s, ?_, q1, q2, by rw [q3, hE], by rw [q5, hE, show f + (tx.length - f) - f = tx.length - f by omega]⟩
    unfold sX10_next_152 sX10_next_152b
    simp only [rg_i h2.1, q3, Option.bind_some, r_here (f + (tx.length - f)) h2 rfl (by omega), rck9 h2, r_digit h2]
    rw [decide_eq_false c, if_pos zf]
end QA
