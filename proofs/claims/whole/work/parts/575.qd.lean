/-! Names as numbers. -/
theorem zaJ_of {σ : zS} {a len : Nat} {x : Int} (i : Nat) (hk : σ.1 a = (3, len)) (hx : x = i) (hi : i < len) (h31 : len < 2147483648) : zaJ σ a (zi x) = some (σ.2.2.2 a i) := by
  subst hx
  unfold zaJ
  rw [hk, if_pos rfl, if_neg, zi_nat (by omega) (by omega), Int.toNat_natCast]
  rw [zi_nat (by omega) (by omega), Int.toNat_natCast, show ((0 : Int32) = zi 0) from rfl, zi_lt (by omega) (by omega) (by omega) (by omega)]
  dsimp only
  omega
theorem zsJ_of {σ : zS} {a len : Nat} {x : Int} {v : Int64} (i : Nat) (hk : σ.1 a = (3, len)) (hx : x = i) (hi : i < len) (h31 : len < 2147483648) : zsJ σ a (zi x) v = some (zuJ σ a i v) := by
  subst hx
  unfold zsJ
  rw [hk, if_pos rfl, if_neg, zi_nat (by omega) (by omega), Int.toNat_natCast]
  rw [zi_nat (by omega) (by omega), Int.toNat_natCast, show ((0 : Int32) = zi 0) from rfl, zi_lt (by omega) (by omega) (by omega) (by omega)]
  dsimp only
  omega
def ple (l : List Int32) : Prop := ∀ c, c ∈ l → 97 ≤ c.toInt ∧ c.toInt ≤ 122
theorem qname_app (l : List Int32) (c : Int32) : qname (l ++ [c]) = 27 * qname l + c.toInt - 96 := by
  unfold qname
  rw [List.foldl_append]
  rfl
theorem qname_nn : ∀ (n : Nat) (l : List Int32), l.length = n → ple l → 0 ≤ qname l ∧ (l ≠ [] → 1 ≤ qname l) ∧ qname l < 27 ^ n
  | 0, l, h, _ => by
    rw [List.eq_nil_of_length_eq_zero h]
    exact ⟨by decide, fun q => absurd rfl q, by decide⟩
  | n + 1, l, h, hp => by
    have hne : l ≠ [] := fun q => by rw [q] at h; cases h
    have e := List.dropLast_concat_getLast hne
    have h1 := hp (l.getLast hne) (List.getLast_mem hne)
    obtain ⟨i1, i2, i3⟩ := qname_nn n l.dropLast (by rw [List.length_dropLast, h]; rfl) (fun c hc => hp c (List.dropLast_subset l hc))
    rw [← e, qname_app, Int.pow_succ]
    generalize (27 : Int) ^ n = t at *
    refine ⟨by omega, fun _ => by omega, by omega⟩
theorem qname_inj : ∀ (n : Nat) (l k : List Int32), l.length = n → ple l → ple k → qname l = qname k → l = k
  | 0, l, k, h, _, hk, e => by
    have hl := List.eq_nil_of_length_eq_zero h
    subst hl
    by_cases q : k = []
    · exact q.symm
    · have := (qname_nn k.length k rfl hk).2.1 q
      rw [← e] at this
      exact absurd this (by decide)
  | n + 1, l, k, h, hl, hk, e => by
    have hne : l ≠ [] := fun q => by rw [q] at h; cases h
    have hke : k ≠ [] := fun q => by
      have := (qname_nn l.length l rfl hl).2.1 hne
      rw [e, q] at this
      exact absurd this (by decide)
    have e1 := List.dropLast_concat_getLast hne
    have e2 := List.dropLast_concat_getLast hke
    have h1 := hl (l.getLast hne) (List.getLast_mem hne)
    have h2 := hk (k.getLast hke) (List.getLast_mem hke)
    rw [← e1, ← e2, qname_app, qname_app] at e
    have e3 : (l.getLast hne).toInt = (k.getLast hke).toInt := by omega
    have e4 : qname l.dropLast = qname k.dropLast := by omega
    have e5 := qname_inj n l.dropLast k.dropLast (by rw [List.length_dropLast, h]; rfl) (fun c hc => hl c (List.dropLast_subset l hc)) (fun c hc => hk c (List.dropLast_subset k hc)) e4
    rw [← e1, ← e2, e5, Int32.toInt_inj.1 e3]
theorem qname_8 {l : List Int32} (h : l.length ≤ 8) (hp : ple l) : 0 ≤ qname l ∧ qname l < 1000000000000 := by
  obtain ⟨h1, -, h3⟩ := qname_nn l.length l rfl hp
  refine ⟨h1, ?_⟩
  have : (27 : Int) ^ l.length ≤ 27 ^ 8 := by
    generalize l.length = n at *
    have : n = 0 ∨ n = 1 ∨ n = 2 ∨ n = 3 ∨ n = 4 ∨ n = 5 ∨ n = 6 ∨ n = 7 ∨ n = 8 := by omega
    rcases this with rfl | rfl | rfl | rfl | rfl | rfl | rfl | rfl | rfl <;> decide
  have h27 : (27 : Int) ^ 8 < 1000000000000 := by decide
  omega
theorem ofInt_inj {a b : Int} (ha : 0 ≤ a ∧ a < 1000000000000) (hb : 0 ≤ b ∧ b < 1000000000000) (h : Int64.ofInt a = Int64.ofInt b) : a = b := by
  have := congrArg Int64.toInt h
  rwa [Int64.toInt_ofInt_of_le (by omega) (by omega), Int64.toInt_ofInt_of_le (by omega) (by omega)] at this
section QD
variable {σ τ υ : zS} {m p k w K : Nat} {tx : List Int32} {D : pD} {e : Nat × Nat}
theorem lg_eq {x y : Int64} : lg_cmp x y = zi 0 ↔ x = y := by
  have h1 := lg_lt (x := x) (y := y)
  have h2 := lg_gt (x := x) (y := y)
  constructor
  · intro h
    rw [h] at h1 h2
    have n1 : ¬ x < y := fun q => Int32.lt_irrefl (h1.2 q)
    have n2 : ¬ y < x := fun q => Int32.lt_irrefl (h2.2 q)
    rw [Int64.lt_iff_toInt_lt] at n1 n2
    exact Int64.toInt_inj.1 (by omega)
  · rintro rfl
    have n1 : ¬ lg_cmp x x < zi 0 := fun q => Int64.lt_irrefl (h1.1 q)
    have n2 : ¬ zi 0 < lg_cmp x x := fun q => Int64.lt_irrefl (h2.1 q)
    rw [Int32.lt_iff_toInt_lt] at n1 n2
    exact Int32.toInt_inj.1 (by omega)
theorem rd_name {f t : Nat} (h : RSh τ m tx) (h17 : τ.2.1 m 17 = zi t) (h18 : τ.2.1 m 18 = zi f) (hft : f ≤ t) (htl : t ≤ tx.length) : fX10_nameHere τ m = some (τ, Int64.ofInt (qname (ptx tx f t))) := by
  have hl := rlen h
  unfold fX10_nameHere
  rw [rg_i h.1, Option.bind_some, h18]
  obtain ⟨o, e1, rfl⟩ := zloop_run (step := sX10_nameHere_7 m) (fuel := zfuel) (t - f) (fun i s => s = (τ, Int64.ofInt (qname (ptx tx f (f + i))), zi ((f + i : Nat) : Int))) (fun o => o = (τ, Int64.ofInt (qname (ptx tx f t)))) (fun i s hi hp => by
    subst hp
    obtain ⟨g1, g2⟩ := gD_zi tx (f + i)
    refine Or.inl ⟨_, ?_, rfl⟩
    unfold sX10_nameHere_7 sX10_nameHere_7b
    dsimp only
    rw [rg_i h.1, Option.bind_some, h17, if_neg (show ¬ zi (t : Int) ≤ zi ((f + i : Nat) : Int) by rw [zi_le (by omega) (by omega) (by omega) (by omega)]; omega), rg_buf h.1, Option.bind_some, zaB_of (f + i) (rk_buf h.1) rfl (by omega) (by decide), Option.bind_some, h.2.1.2.2 (f + i) (by omega), zi_add]
    have el : ptx tx f (f + (i + 1)) = ptx tx f (f + i) ++ [tx.getD (f + i) 0] := by
      refine gD_ext (by rw [ptx_len (by omega), List.length_append, ptx_len (by omega), List.length_singleton]; omega) (fun j hj => ?_)
      rw [ptx_len (by omega)] at hj
      rw [ptx_at (by omega)]
      by_cases ej : j = i
      · subst ej
        have := gD_end (t := ptx tx f (f + j)) (v := tx.getD (f + j) 0)
        rw [ptx_len (by omega), show f + j - f = j by omega] at this
        exact this.symm
      · rw [gD_app (by rw [ptx_len (by omega)]; omega), ptx_at (by omega)]
    rw [el, qname_app]
    have ec : (tx.getD (f + i) 0).toInt64 = Int64.ofInt (tx.getD (f + i) 0).toInt := by
      rw [← Int32.toInt_toInt64, Int64.ofInt_toInt]
    rw [ec, Int64.ofInt_sub, Int64.ofInt_add, Int64.ofInt_mul]
    rfl) (fun s hp => by
    subst hp
    refine ⟨(τ, Int64.ofInt (qname (ptx tx f (f + (t - f))))), ?_, by rw [show f + (t - f) = t by omega]⟩
    unfold sX10_nameHere_7 sX10_nameHere_7b
    dsimp only
    rw [rg_i h.1, Option.bind_some, h17]
    exact if_pos ((zi_le (by omega) (by omega) (by omega) (by omega)).2 (by omega))) (zfuel_lt (by omega)) (s := (τ, 0, zi f)) (by
    have : ptx tx f (f + 0) = [] := by
      refine List.eq_nil_of_length_eq_zero ?_
      rw [ptx_len (by omega)]
      omega
    rw [this]
    rfl)
  rw [e1]
  rfl
theorem rd_place {a n : Nat} {nm : Nat → List Int32} {l : List Int32} (hk : σ.1 a = (3, 4)) (hn : n ≤ 4) (hN : ∀ s, s < n → σ.2.2.2 a s = Int64.ofInt (qname (nm s)) ∧ (nm s).length ≤ 8 ∧ ple (nm s)) (hl : l.length ≤ 8) (hp : ple l) : fX10_placeOf σ (Int64.ofInt (qname l)) a (zi n) = some (σ, zi (pnm n nm l)) := by
  have b1 := qname_8 hl hp
  unfold fX10_placeOf
  obtain ⟨o, e1, e2⟩ := zloop_run (step := sX10_placeOf_3 (Int64.ofInt (qname l)) a (zi n)) (fuel := zfuel) n (fun i z => z = (σ, zi (i : Nat)) ∧ ∀ j, j < i → nm j ≠ l) (fun o => (∃ j : Nat, o = .inl (σ, zi (j : Nat)) ∧ j < n ∧ nm j = l ∧ ∀ i, i < j → nm i ≠ l) ∨ o = .inr σ ∧ ∀ j, j < n → nm j ≠ l) (fun i z hi hp2 => by
    obtain ⟨rfl, q⟩ := hp2
    obtain ⟨g1, g2, g3⟩ := hN i hi
    have b2 := qname_8 g2 g3
    unfold sX10_placeOf_3 sX10_placeOf_3b
    dsimp only
    rw [if_neg (show ¬ zi (n : Int) ≤ zi (i : Nat) by rw [zi_le (by omega) (by omega) (by omega) (by omega)]; omega), zaJ_of i hk rfl (by omega) (by decide), Option.bind_some, g1]
    by_cases g : nm i = l
    · rw [if_pos (lg_eq.2 (by rw [g]))]
      exact Or.inr ⟨_, rfl, Or.inl ⟨i, rfl, hi, g, q⟩⟩
    · rw [if_neg (fun q2 => g (qname_inj _ _ _ rfl g3 hp (ofInt_inj b2 b1 (lg_eq.1 q2))))]
      refine Or.inl ⟨_, rfl, by rw [zi_add]; rfl, fun j hj => ?_⟩
      by_cases g2 : j = i
      · rw [g2]
        exact g
      · exact q j (by omega)) (fun z hp2 => by
    obtain ⟨rfl, q⟩ := hp2
    refine ⟨.inr σ, ?_, Or.inr ⟨rfl, q⟩⟩
    unfold sX10_placeOf_3 sX10_placeOf_3b
    exact if_pos ((zi_le (by omega) (by omega) (by omega) (by omega)).2 (by omega))) (zfuel_lt (by omega)) (s := (σ, zi 0)) ⟨rfl, fun j hj => absurd hj (by omega)⟩
  rw [e1]
  rcases e2 with ⟨j, rfl, j1, j2, j3⟩ | ⟨rfl, g⟩
  · have : (List.range n).find? (fun s => decide (nm s = l)) = some j := by
      rw [List.find?_range_eq_some]
      refine ⟨decide_eq_true j2, List.mem_range.2 j1, fun i hi => ?_⟩
      rw [decide_eq_false (j3 i hi)]
      rfl
    unfold pnm
    rw [this]
    rfl
  · have : (List.range n).find? (fun s => decide (nm s = l)) = none := by
      rw [List.find?_range_eq_none]
      intro i hi
      rw [decide_eq_false (g i hi)]
      rfl
    unfold pnm
    rw [this]
    rfl
end QD
