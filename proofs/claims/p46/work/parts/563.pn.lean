/-! The class's parser: numbers, names. -/
def NM (τ : zS) (u s : Nat) (l : List Int32) : Prop := τ.2.1 (u + 4) s = zi l.length ∧ l.length ≤ 8 ∧ ∀ i, i < l.length → τ.2.1 (u + 5) (8 * s + i) = l.getD i 0
/-- the draft's words -/
def PD (τ : zS) (u : Nat) (D : pD) : Prop := (D.1 ≤ 4 ∧ τ.2.1 u 0 = zi D.1) ∧ (∀ s, s < 4 → τ.2.1 (u + 1) s = zi (D.2.1 s) ∧ τ.2.1 (u + 2) s = zi (D.2.2.1 s) ∧ τ.2.1 (u + 3) s = zi (D.2.2.2.1 s)) ∧ (∀ s, s < D.1 → NM τ u s (D.2.2.2.2.1 s)) ∧ ∀ k, k < 5 → τ.2.1 (u + 6) k = match D.2.2.2.2.2 k with | none => zi (-1) | some v => zi v
/-- the first of n names that is l -/
def pnm (n : Nat) (nm : Nat → List Int32) (l : List Int32) : Int := match (List.range n).find? (fun s => decide (nm s = l)) with | none => -1 | some s => s
theorem pnm_neg {n : Nat} {nm : Nat → List Int32} {l : List Int32} : pnm n nm l = -1 ↔ ¬ ∃ s, s < n ∧ nm s = l := by
  unfold pnm
  cases h : (List.range n).find? (fun s => decide (nm s = l)) with
  | none =>
    rw [List.find?_range_eq_none] at h
    refine ⟨fun _ ⟨s, h1, h2⟩ => ?_, fun _ => rfl⟩
    have := h s h1
    rw [decide_eq_true h2] at this
    cases this
  | some s =>
    rw [List.find?_range_eq_some] at h
    refine ⟨fun q => ?_, fun q => absurd ⟨s, List.mem_range.1 h.2.1, of_decide_eq_true h.1⟩ q⟩
    dsimp only at q
    omega
theorem pnm_lt {n : Nat} {nm : Nat → List Int32} {l : List Int32} : -1 ≤ pnm n nm l ∧ pnm n nm l < n + 1 := by
  unfold pnm
  cases h : (List.range n).find? (fun s => decide (nm s = l)) with
  | none => constructor <;> dsimp only <;> omega
  | some s =>
    rw [List.find?_range_eq_some] at h
    have := List.mem_range.1 h.2.1
    constructor <;> dsimp only <;> omega
theorem plo_t : ∀ w, w < 9 → zwI 2 w = some (zi (plo w)) ∧ zwI 3 w = some (zi (pup w)) ∧ 0 ≤ plo w ∧ plo w ≤ 1 ∧ 1 ≤ pup w + 1 ∧ pup w ≤ 999 := by decide
theorem sg_r {σ : zS} {u j : Nat} (h : sush σ u) (h1 : 2 ≤ j) (h2 : j ≤ 10) : zgR 7 j σ u = some (u + (j - 1)) := (if_pos h.1).trans (h.2.1 j h1 h2)
theorem sg_i {σ : zS} {u j : Nat} (h : sush σ u) : zgI 7 j σ u = some (σ.2.1 u j) := if_pos h.1
section PN
variable {σ τ υ : zS} {X u p w c : Nat} {tx : List Int32} {D : pD}
theorem pdig {i : Nat} (hk : pK tx p = 2) (h1 : pF tx p ≤ i) (h2 : i < pT tx p) : 48 ≤ pc tx i ∧ pc tx i ≤ 57 := by
  have hk2 : pk tx i = 2 := by
    unfold pK at hk
    by_cases e : i = pF tx p
    · rw [e, hk]
    · unfold pT pE at h2
      rw [if_neg (by omega), if_pos (by omega), hk] at h2
      unfold pru at h2
      exact of_decide_eq_true (pto_f (f := fun i => decide (pk tx i = 2)) (show pF tx p + 1 ≤ i by omega) h2)
  unfold pk pck at hk2
  split at hk2
  · split at hk2
    · cases hk2
    · split at hk2
      · assumption
      · split at hk2 <;> cases hk2
  · cases hk2
theorem pnum_in (hk : pK tx p = 2) (h3 : pT tx p - pF tx p ≤ 3) : ∀ n, n ≤ pT tx p - pF tx p → 0 ≤ pnum tx (pF tx p) n ∧ pnum tx (pF tx p) n < (if n = 0 then 1 else if n = 1 then 10 else if n = 2 then 100 else 1000) := by
  intro n hn
  have d := fun i h => pdig (i := pF tx p + i) hk (by omega) (show pF tx p + i < pT tx p from h)
  have : n = 0 ∨ n = 1 ∨ n = 2 ∨ n = 3 := by omega
  rcases this with rfl | rfl | rfl | rfl
  · show (0 : Int) ≤ 0 ∧ (0 : Int) < 1
    decide
  · have d0 := d 0 (by omega)
    unfold pnum pnum
    rw [if_neg (by decide), if_pos rfl]
    omega
  · have d0 := d 0 (by omega)
    have d1 := d 1 (by omega)
    unfold pnum pnum pnum
    rw [if_neg (by decide), if_neg (by decide), if_pos rfl]
    omega
  · have d0 := d 0 (by omega)
    have d1 := d 1 (by omega)
    have d2 := d 2 (by omega)
    unfold pnum pnum pnum pnum
    rw [if_neg (by decide), if_neg (by decide), if_neg (by decide)]
    omega
theorem pnum_1000 (hk : pK tx p = 2) (h3 : pT tx p - pF tx p ≤ 3) {n : Nat} (hn : n ≤ pT tx p - pF tx p) : 0 ≤ pnum tx (pF tx p) n ∧ pnum tx (pF tx p) n < 1000 := by
  have := pnum_in hk h3 n hn
  refine ⟨this.1, ?_⟩
  have h2 := this.2
  split at h2
  · omega
  · split at h2
    · omega
    · split at h2 <;> omega
theorem pl_num (h : PSh τ X u tx) (ht : PT τ X tx p) (hp : p ≤ tx.length) (hw : w < 9) : (∀ a, pnb tx w p = .inr a → ∃ υ, fX5_readNumber τ (X + 3) w = some (υ, zi 1) ∧ pfP X τ υ ∧ PT υ X tx a.2 ∧ υ.2.1 (X + 3) 7 = zi a.1) ∧ ∀ e, pnb tx w p = .inl e → ∃ υ, fX5_readNumber τ (X + 3) w = some (υ, zi 0) ∧ PBad X u τ υ e := by
  have hl := plen h
  obtain ⟨b1, b2, b3, -⟩ := pT_in hp
  obtain ⟨c1, c2, c3, c4, c5, c6⟩ := plo_t w hw
  have hk := ppk_le (tx := tx) (p := pF tx p)
  have bad1 : ∃ υ, jX5_readNumber_21 τ (X + 3) = some (υ, zi 0) ∧ PBad X u τ υ (1, pF tx p) := by
    obtain ⟨υ, r1, r2⟩ := pl_refuse (c := 1) h ht.2.1
    refine ⟨υ, ?_, r2⟩
    unfold jX5_readNumber_21
    rw [pck5 h, show fX5_refuse τ (X + 3) (zi 1) = some (υ, zi 0) from r1]
    exact zrZ0
  unfold fX5_readNumber pnb
  simp only [pg_i h, ht.1, ht.2.1, ht.2.2, Option.bind_some, zi_sub, pp_i h]
  by_cases k2 : pK tx p = 2
  · rw [if_pos (show zi (pK tx p) = zi 2 by rw [k2]; rfl)]
    by_cases k3 : pT tx p - pF tx p ≤ 3
    · rw [if_pos ((zi_le (by omega) (by omega) (by omega) (by omega)).2 (show (pT tx p : Int) - pF tx p ≤ 3 by omega)), if_pos ⟨k2, k3⟩]
      have h7 : PSh (zuI τ (X + 3) 7 (zi 0)) X u tx := PSh_fr h pfr_3
      have r5 : (zuI τ (X + 3) 7 (zi 0)).2.1 (X + 3) 5 = zi (pF tx p) := by rw [zuI_rd, if_neg (by omega), ht.2.1]
      rw [pg_i h7, Option.bind_some, r5]
      obtain ⟨o, e1, q1, q2, q3⟩ := zloop_run (step := sX5_readNumber_37 (X + 3) w) (fuel := zfuel) (pT tx p - pF tx p) (fun i s => (pfP X τ s.1 ∧ PT s.1 X tx p) ∧ s.1.2.1 (X + 3) 7 = zi (pnum tx (pF tx p) i) ∧ s.2 = zi ((pF tx p + i : Nat) : Int)) (fun o => pfP X τ o ∧ PT o X tx p ∧ o.2.1 (X + 3) 7 = zi (pnum tx (pF tx p) (pT tx p - pF tx p))) (fun i s hi hp2 => by
        obtain ⟨s, v⟩ := s
        obtain ⟨⟨q1, q2⟩, q3, q4⟩ := hp2
        dsimp only at q1 q2 q3 q4
        subst q4
        have h2 : PSh s X u tx := PSh_fr h (pfP_pfr q1)
        obtain ⟨g1, g2, g3⟩ := gD_zi tx (pF tx p + i)
        unfold sX5_readNumber_37 sX5_readNumber_37b
        simp only [pg_i h2, pg_t h2, q2.2.2, q3, Option.bind_some, px_byte (pF tx p + i) h2 rfl (by omega), pck2 h2, g1, zi_add, zi_sub, zi_mul, pp_i h2]
        rw [if_neg (by rw [zi_le (by omega) (by omega) (by omega) (by omega)]; omega)]
        exact Or.inl ⟨_, rfl, ⟨pfP_trans q1 pfP_7, by rw [PT, zuI_rd, if_neg (by omega), zuI_rd, if_neg (by omega), zuI_rd, if_neg (by omega)]; exact q2⟩, by rw [zuI_rd, if_pos rfl]; rfl, rfl⟩) (fun s hp2 => by
        obtain ⟨s, v⟩ := s
        obtain ⟨⟨q1, q2⟩, q3, q4⟩ := hp2
        dsimp only at q1 q2 q3 q4
        subst q4
        have h2 : PSh s X u tx := PSh_fr h (pfP_pfr q1)
        refine ⟨s, ?_, q1, q2, q3⟩
        unfold sX5_readNumber_37 sX5_readNumber_37b
        rw [pg_i h2, Option.bind_some, q2.2.2]
        exact if_pos ((zi_le (by omega) (by omega) (by omega) (by omega)).2 (by omega))) (zfuel_lt (by omega)) (s := (zuI τ (X + 3) 7 (zi 0), zi (pF tx p))) ⟨⟨pfP_7, by rw [PT, zuI_rd, if_neg (by omega), zuI_rd, if_neg (by omega), zuI_rd, if_neg (by omega)]; exact ht⟩, by rw [zuI_rd, if_pos rfl]; rfl, rfl⟩
      have h8 : PSh o X u tx := PSh_fr h (pfP_pfr q1)
      obtain ⟨n1, n2⟩ := pnum_1000 k2 k3 (Nat.le_refl _)
      have bad2 : ∃ υ, jX5_readNumber_96 o (X + 3) = some (υ, zi 0) ∧ PBad X u τ υ (2, pF tx p) := by
        obtain ⟨υ, r1, r2⟩ := pl_refuse (c := 2) h8 q2.2.1
        refine ⟨υ, ?_, PBad_fr (pfP_pfr q1) r2⟩
        unfold jX5_readNumber_96
        rw [pck5 h8, show fX5_refuse o (X + 3) (zi 2) = some (υ, zi 0) from r1]
        exact zrZ0
      rw [e1, Option.bind_some, pg_i h8, Option.bind_some, q3, c1, Option.bind_some, Option.bind_some, c2, Option.bind_some]
      generalize hn : pnum tx (pF tx p) (pT tx p - pF tx p) = n at *
      simp only [zi_lt (show (-2147483648 : Int) ≤ n by omega) (show n < 2147483648 by omega) (show (-2147483648 : Int) ≤ plo w by omega) (show plo w < 2147483648 by omega), zi_le (show (-2147483648 : Int) ≤ n by omega) (show n < 2147483648 by omega) (show (-2147483648 : Int) ≤ pup w by omega) (show pup w < 2147483648 by omega)]
      by_cases g1 : n < plo w
      · rw [if_pos g1, if_neg (show ¬ (plo w ≤ n ∧ n ≤ pup w) by omega)]
        refine ⟨fun a q => (by cases q), fun e q => ?_⟩
        cases q
        exact bad2
      · rw [if_neg g1]
        by_cases g2 : n ≤ pup w
        · rw [if_pos g2, if_pos (show plo w ≤ n ∧ n ≤ pup w by omega)]
          refine ⟨fun a q => ?_, fun e q => (by cases q)⟩
          cases q
          obtain ⟨υ, w1, w2, w3⟩ := pl_adv (p0 := pT tx p) h8 q2.2.2 b2
          refine ⟨υ, ?_, pfP_trans q1 (pfT_P w2), w3, ?_⟩
          · rw [pck5 h8, w1]
            exact zrZ1
          · rw [w2.2.2.2 7 (by omega) (by omega) (by omega), q3]
            congr 1
            dsimp only
            omega
        · rw [if_neg g2, if_neg (show ¬ (plo w ≤ n ∧ n ≤ pup w) by omega)]
          refine ⟨fun a q => (by cases q), fun e q => ?_⟩
          cases q
          exact bad2
    · rw [if_neg (show ¬ zi ((pT tx p : Int) - pF tx p) ≤ zi 3 by rw [zi_le (by omega) (by omega) (by omega) (by omega)]; omega), if_neg (show ¬ (pK tx p = 2 ∧ pT tx p - pF tx p ≤ 3) by omega)]
      refine ⟨fun a q => (by cases q), fun e q => ?_⟩
      cases q
      exact bad1
  · rw [if_neg (show ¬ zi (pK tx p) = zi 2 by rw [zi_eq (by unfold pK; omega) (by unfold pK; omega) (by omega) (by omega)]; omega), if_neg (show ¬ (pK tx p = 2 ∧ pT tx p - pF tx p ≤ 3) by omega)]
    refine ⟨fun a q => (by cases q), fun e q => ?_⟩
    cases q
    exact bad1
/-- is a name that text -/
theorem pn_is {s f t : Nat} {l : List Int32} (hs : sush σ u) (hk : σ.1 (X + 2) = (2, 300)) (hb : ∀ i, i < tx.length → σ.2.1 (X + 2) i = tx.getD i 0) (hN : NM σ u s l) (hs4 : s < 4) (hft : f ≤ t) (htl : t ≤ tx.length) (hl : tx.length ≤ 300) : fX7_isName σ u (zi s) (X + 2) (zi f) (zi ((t - f : Nat) : Int)) = some (σ, zb (decide (l = ptx tx f t))) := by
  obtain ⟨n1, n2, n3⟩ := hN
  have g : zlen σ (X + 2) = some (zi 300) := by
    unfold zlen
    rw [hk, if_neg (by decide)]
    rfl
  unfold fX7_isName
  rw [sg_r hs (by omega) (by omega), Option.bind_some, zaI_of s hs.2.2.1.2.2.2.1 rfl hs4 (by decide), Option.bind_some, n1]
  by_cases e : t - f = l.length
  · rw [if_pos (show zi ((t - f : Nat) : Int) = zi l.length by rw [e]), if_neg (show ¬ zi 8 < zi ((t - f : Nat) : Int) by rw [zi_lt (by omega) (by omega) (by omega) (by omega)]; omega), if_neg (show ¬ zi (f : Int) < zi 0 by rw [zi_lt (by omega) (by omega) (by omega) (by omega)]; omega), g, Option.bind_some, zi_add, if_pos ((zi_le (by omega) (by omega) (by omega) (by omega)).2 (show (f : Int) + (t - f : Nat) ≤ 300 by omega))]
    obtain ⟨o, e1, e2⟩ := zloop_run (step := sX7_isName_36 u (zi s) (X + 2) (zi f) (zi ((t - f : Nat) : Int))) (fuel := zfuel) (t - f) (fun i z => z = (σ, zi (i : Nat)) ∧ ∀ j, j < i → l.getD j 0 = tx.getD (f + j) 0) (fun o => (o = .inl σ ∧ ∃ j, j < t - f ∧ l.getD j 0 ≠ tx.getD (f + j) 0) ∨ o = .inr σ ∧ ∀ j, j < t - f → l.getD j 0 = tx.getD (f + j) 0) (fun i z hi hp2 => by
      obtain ⟨rfl, q⟩ := hp2
      unfold sX7_isName_36 sX7_isName_36b
      dsimp only
      rw [if_neg (show ¬ zi ((t - f : Nat) : Int) ≤ zi (i : Nat) by rw [zi_le (by omega) (by omega) (by omega) (by omega)]; omega), sg_r hs (by omega) (by omega), Option.bind_some, zi_mul, zi_add, zaB_of (8 * s + i) hs.2.2.1.2.2.2.2.1 (by omega) (by omega) (by decide), Option.bind_some, n3 i (by omega), zi_add, zaB_of (f + i) hk (by omega) (by omega) (by decide), Option.bind_some, hb (f + i) (by omega)]
      by_cases g : l.getD i 0 = tx.getD (f + i) 0
      · rw [if_pos g]
        refine Or.inl ⟨_, rfl, by rw [zi_add]; rfl, fun j hj => ?_⟩
        by_cases g2 : j = i
        · rw [g2]
          exact g
        · exact q j (by omega)
      · rw [if_neg g]
        exact Or.inr ⟨_, rfl, Or.inl ⟨rfl, i, hi, g⟩⟩) (fun z hp2 => by
      obtain ⟨rfl, q⟩ := hp2
      refine ⟨.inr σ, ?_, Or.inr ⟨rfl, q⟩⟩
      unfold sX7_isName_36 sX7_isName_36b
      exact if_pos ((zi_le (by omega) (by omega) (by omega) (by omega)).2 (by omega))) (zfuel_lt (by omega)) (s := (σ, zi 0)) ⟨rfl, fun j hj => absurd hj (by omega)⟩
    rw [e1]
    rcases e2 with ⟨rfl, j, j1, j2⟩ | ⟨rfl, g⟩
    · rw [decide_eq_false (fun q => j2 (by rw [q, ptx_at j1]))]
      exact zrZ0
    · rw [decide_eq_true (gD_ext (by rw [ptx_len htl, e]) fun i hi => by
        rw [ptx_at (by omega), g i (by omega)])]
      exact zrZ1
  · rw [if_neg (show ¬ zi ((t - f : Nat) : Int) = zi l.length by rw [zi_eq (by omega) (by omega) (by omega) (by omega)]; omega), decide_eq_false (fun q => e (by rw [q, ptx_len htl]))]
    exact zrZ0
theorem pn_named {n f t : Nat} {nm : Nat → List Int32} (hs : sush σ u) (hk : σ.1 (X + 2) = (2, 300)) (hb : ∀ i, i < tx.length → σ.2.1 (X + 2) i = tx.getD i 0) (h0 : σ.2.1 u 0 = zi n) (hn : n ≤ 4) (hN : ∀ s, s < n → NM σ u s (nm s)) (hft : f ≤ t) (htl : t ≤ tx.length) (hl : tx.length ≤ 300) : fX7_named σ u (X + 2) (zi f) (zi ((t - f : Nat) : Int)) = some (σ, zi (pnm n nm (ptx tx f t))) := by
  unfold fX7_named
  obtain ⟨o, e1, e2⟩ := zloop_run (step := sX7_named_3 u (X + 2) (zi f) (zi ((t - f : Nat) : Int))) (fuel := zfuel) n (fun i z => z = (σ, zi (i : Nat)) ∧ ∀ j, j < i → nm j ≠ ptx tx f t) (fun o => (∃ j, o = .inl (σ, zi (j : Nat)) ∧ j < n ∧ nm j = ptx tx f t ∧ ∀ i, i < j → nm i ≠ ptx tx f t) ∨ o = .inr σ ∧ ∀ j, j < n → nm j ≠ ptx tx f t) (fun i z hi hp2 => by
    obtain ⟨rfl, q⟩ := hp2
    unfold sX7_named_3 sX7_named_3b
    dsimp only
    rw [sg_i hs, Option.bind_some, h0, if_neg (show ¬ zi (n : Int) ≤ zi (i : Nat) by rw [zi_le (by omega) (by omega) (by omega) (by omega)]; omega), pn_is hs hk hb (hN i hi) (by omega) hft htl hl, show ∀ o : Option (zS × Int32), zck 7 σ u o = o from fun o => if_pos hs.1, Option.bind_some]
    by_cases g : nm i = ptx tx f t
    · rw [decide_eq_true g, if_neg zt]
      exact Or.inr ⟨_, rfl, Or.inl ⟨i, rfl, hi, g, q⟩⟩
    · rw [decide_eq_false g, if_pos zf]
      refine Or.inl ⟨_, rfl, by rw [zi_add]; rfl, fun j hj => ?_⟩
      by_cases g2 : j = i
      · rw [g2]
        exact g
      · exact q j (by omega)) (fun z hp2 => by
    obtain ⟨rfl, q⟩ := hp2
    refine ⟨.inr σ, ?_, Or.inr ⟨rfl, q⟩⟩
    unfold sX7_named_3 sX7_named_3b
    dsimp only
    rw [sg_i hs, Option.bind_some, h0]
    exact if_pos ((zi_le (by omega) (by omega) (by omega) (by omega)).2 (by omega))) (zfuel_lt (by omega)) (s := (σ, zi 0)) ⟨rfl, fun j hj => absurd hj (by omega)⟩
  rw [e1]
  rcases e2 with ⟨j, rfl, j1, j2, j3⟩ | ⟨rfl, g⟩
  · have : (List.range n).find? (fun s => decide (nm s = ptx tx f t)) = some j := by
      rw [List.find?_range_eq_some]
      refine ⟨decide_eq_true j2, List.mem_range.2 j1, fun i hi => ?_⟩
      rw [decide_eq_false (j3 i hi)]
      rfl
    unfold pnm
    rw [this]
    rfl
  · have : (List.range n).find? (fun s => decide (nm s = ptx tx f t)) = none := by
      rw [List.find?_range_eq_none]
      intro i hi
      rw [decide_eq_false (g i hi)]
      rfl
    unfold pnm
    rw [this]
    rfl
end PN
