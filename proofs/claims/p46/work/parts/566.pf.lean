/-! The class's setup is finished: keys, values, sums. -/
section PFI
variable {σ τ υ : zS} {X u p w c : Nat} {tx : List Int32} {D : pD} {P : qP}
theorem r_fill {a n : Nat} {v : Int32} (hk : σ.1 a = (1, n)) (hn : n < 1000) : fX9_fillRow σ a v = some (rp σ a (fun j => if j < n then v else σ.2.1 a j)) := by
  have g : ∀ r, zlen (rp σ a r) a = some (zi n) := fun r => by
    unfold zlen
    rw [show (rp σ a r).1 a = (1, n) from hk, if_neg (show ¬ ((1, n).1 = 0 ∨ 4 < (1, n).1) from by dsimp only; omega)]
    rfl
  obtain ⟨o, e1, e2⟩ := zloop_run (step := sX9_fillRow_2 a v) (fuel := zfuel) n (fun i z => z = (rp σ a (fun j => if j < i then v else σ.2.1 a j), zi (i : Nat))) (fun o => o = rp σ a (fun j => if j < n then v else σ.2.1 a j)) (fun i z hi hp => by
    subst hp
    refine Or.inl ⟨(rp σ a (fun j => if j < i + 1 then v else σ.2.1 a j), zi ((i + 1 : Nat) : Int)), ?_, rfl⟩
    unfold sX9_fillRow_2 sX9_fillRow_2b
    dsimp only
    rw [g, Option.bind_some, if_neg (show ¬ zi (n : Int) ≤ zi (i : Nat) by rw [zi_le (by omega) (by omega) (by omega) (by omega)]; omega), zsI_of (σ := rp σ a (fun j => if j < i then v else σ.2.1 a j)) i hk rfl hi (by omega), Option.bind_some, rp_upd, zi_add]
    have : qu (fun j => if j < i then v else σ.2.1 a j) i v = fun j => if j < i + 1 then v else σ.2.1 a j := by
      funext j
      by_cases e : j = i
      · subst e
        rw [qu_at, if_pos (by omega)]
      · rw [qu_ne e]
        by_cases e2 : j < i
        · rw [if_pos e2, if_pos (by omega)]
        · rw [if_neg e2, if_neg (by omega)]
    rw [this]
    rfl) (fun z hp => by
    subst hp
    refine ⟨_, ?_, rfl⟩
    unfold sX9_fillRow_2 sX9_fillRow_2b
    dsimp only
    rw [g, Option.bind_some, if_pos ((zi_le (by omega) (by omega) (by omega) (by omega)).2 (by omega))]) (zfuel_lt (by omega)) (s := (σ, zi 0)) (by
    have : rp σ a (fun j => if j < 0 then v else σ.2.1 a j) = σ := by
      rw [show (fun j => if j < 0 then v else σ.2.1 a j) = σ.2.1 a from funext fun j => if_neg (by omega)]
      exact rp_self
    rw [this]
    rfl)
  subst e2
  unfold fX9_fillRow
  rw [e1]
  rfl
theorem sush_rp {a : Nat} {g : Nat → Int32} (h : sush σ u) : sush (rp σ a g) u := h
theorem sush_uI {a j : Nat} {v : Int32} (h : sush σ u) : sush (zuI σ a j v) u := h
theorem p_clear (hs : sush τ u) : ∃ υ, fX7_clear τ u = some υ ∧ υ.1 = τ.1 ∧ υ.2.2 = τ.2.2 ∧ (∀ a, (a < u ∨ u + 10 ≤ a) → υ.2.1 a = τ.2.1 a) ∧ PD υ u pD0 := by
  have k1 := hs.2.2.1
  refine ⟨rp (rp (rp (rp (zuI τ u 0 (zi 0)) (u + 1) (fun j => if j < 4 then zi 0 else τ.2.1 (u + 1) j)) (u + 2) (fun j => if j < 4 then zi 0 else τ.2.1 (u + 2) j)) (u + 3) (fun j => if j < 4 then zi 0 else τ.2.1 (u + 3) j)) (u + 6) (fun j => if j < 5 then zi (-1) else τ.2.1 (u + 6) j), ?_, rfl, rfl, fun a ha => ?_, ⟨by decide, ?_⟩, fun s hs => ⟨?_, ?_, ?_⟩, fun s hs => absurd (show s < 0 from hs) (by omega), fun k hk => ?_⟩
  · unfold fX7_clear
    have r1 : (zuI τ u 0 (zi 0)).2.1 (u + 1) = τ.2.1 (u + 1) := zu_off _ _ _ (by omega)
    have r2 : (rp (zuI τ u 0 (zi 0)) (u + 1) (fun j => if j < 4 then zi 0 else τ.2.1 (u + 1) j)).2.1 (u + 2) = τ.2.1 (u + 2) := by
      rw [rp_ne (by omega)]
      exact zu_off _ _ _ (by omega)
    have r3 : (rp (rp (zuI τ u 0 (zi 0)) (u + 1) (fun j => if j < 4 then zi 0 else τ.2.1 (u + 1) j)) (u + 2) (fun j => if j < 4 then zi 0 else τ.2.1 (u + 2) j)).2.1 (u + 3) = τ.2.1 (u + 3) := by
      rw [rp_ne (by omega), rp_ne (by omega)]
      exact zu_off _ _ _ (by omega)
    have r4 : (rp (rp (rp (zuI τ u 0 (zi 0)) (u + 1) (fun j => if j < 4 then zi 0 else τ.2.1 (u + 1) j)) (u + 2) (fun j => if j < 4 then zi 0 else τ.2.1 (u + 2) j)) (u + 3) (fun j => if j < 4 then zi 0 else τ.2.1 (u + 3) j)).2.1 (u + 6) = τ.2.1 (u + 6) := by
      rw [rp_ne (by omega), rp_ne (by omega), rp_ne (by omega)]
      exact zu_off _ _ _ (by omega)
    rw [show zpI 7 0 τ u (zi 0) = some (zuI τ u 0 (zi 0)) from if_pos hs.1, Option.bind_some, sg_r (j := 2) (sush_uI hs) (by omega) (by omega), Option.bind_some, r_fill (sush_uI hs).2.2.1.1 (by omega), Option.bind_some, r1]
    rw [sg_r (j := 3) (sush_rp (sush_uI hs)) (by omega) (by omega), Option.bind_some, r_fill (sush_rp (sush_uI hs)).2.2.1.2.1 (by omega), Option.bind_some, r2]
    rw [sg_r (j := 4) (sush_rp (sush_rp (sush_uI hs))) (by omega) (by omega), Option.bind_some, r_fill (sush_rp (sush_rp (sush_uI hs))).2.2.1.2.2.1 (by omega), Option.bind_some, r3]
    rw [sg_r (j := 7) (sush_rp (sush_rp (sush_rp (sush_uI hs)))) (by omega) (by omega), Option.bind_some, r_fill (sush_rp (sush_rp (sush_rp (sush_uI hs)))).2.2.1.2.2.2.2.2 (by omega), Option.bind_some, r4]
  · rw [rp_ne (by omega), rp_ne (by omega), rp_ne (by omega), rp_ne (by omega)]
    exact zu_off _ _ _ (by omega)
  · rw [rp_ne (by omega), rp_ne (by omega), rp_ne (by omega), rp_ne (by omega), zuI_rd, if_pos rfl]
    rfl
  · rw [rp_ne (by omega), rp_ne (by omega), rp_ne (by omega), rp_at, if_pos hs]
    rfl
  · rw [rp_ne (by omega), rp_ne (by omega), rp_at, if_pos hs]
    rfl
  · rw [rp_ne (by omega), rp_at, if_pos hs]
    rfl
  · rw [rp_at, if_pos hk]
    rfl
/-- what a setting says -/
def pse0 (D : pD) (w : Nat) : Int := match D.2.2.2.2.2 (w - 4) with | none => [0, 0, 0, 0, 1, 1, 4, 0, 0].getD w 0 | some v => v
theorem p_chosen (hs : sush τ u) (hD : PD τ u D) (hw : w < 9) (h4 : 4 ≤ w) (hv : ∀ k v, D.2.2.2.2.2 k = some v → v < 1000) : fX7_chosen τ u w = some (τ, zi (pse0 D w)) := by
  have hset := hD.2.2.2 (w - 4) (by omega)
  have g : zlen τ (u + 6) = some (zi 5) := by
    unfold zlen
    rw [hs.2.2.1.2.2.2.2.2, if_neg (by decide)]
    rfl
  have g7 : zgR 7 7 τ u = some (u + 6) := sg_r hs (by omega) (by omega)
  have ga : zaI τ (u + 6) (zi ((w : Int) - 4)) = some (τ.2.1 (u + 6) (w - 4)) := zaI_of (w - 4) hs.2.2.1.2.2.2.2.2 (by omega) (by omega) (by decide)
  unfold fX7_chosen pse0
  simp only [(zw_set w hw).1, (zw_set w hw).2, if_pos h4, Option.bind_some, g7, g, ga]
  rw [if_neg (show ¬ zi ((w : Int) - 4) < zi 0 by rw [zi_lt (by omega) (by omega) (by omega) (by omega)]; omega), if_neg (show ¬ zi 5 ≤ zi ((w : Int) - 4) by rw [zi_le (by omega) (by omega) (by omega) (by omega)]; omega), hset]
  cases hS : D.2.2.2.2.2 (w - 4) with
  | none => exact if_pos rfl
  | some v =>
    have := hv _ _ hS
    exact if_neg (show ¬ zi (v : Int) = zi (-1) by rw [zi_eq (by omega) (by omega) (by omega) (by omega)]; omega)
/-- keys and values, sums, as far as told -/
def FK (σ : zS) (u : Nat) (P : qP) (gk gr : Nat → Prop) (τ : zS) : Prop := (τ.1 = σ.1 ∧ τ.2.2 = σ.2.2 ∧ ∀ a, a ≠ u + 7 → a ≠ u + 8 → a ≠ u + 9 → τ.2.1 a = σ.2.1 a) ∧ (∀ n, n < 800 → gk n → τ.2.1 (u + 7) n = zi (qkey P n) ∧ τ.2.1 (u + 8) n = zi (qval P n)) ∧ ∀ n, n < 800 → gr n → τ.2.1 (u + 9) n = zi (qres P n)
/-- the setup's numbers, as told -/
def SR (σ : zS) (u : Nat) (P : qP) : Prop := sush σ u ∧ σ.2.1 u 0 = zi P.1 ∧ (∀ s, s < 4 → σ.2.1 (u + 1) s = zi (P.2.2.1 s) ∧ σ.2.1 (u + 2) s = zi (P.2.2.2 s)) ∧ qPok P
theorem FK_SR {gk gr : Nat → Prop} (h : SR σ u P) (k : FK σ u P gk gr τ) : SR τ u P := by
  obtain ⟨a1, a2, a3, a4⟩ := h
  obtain ⟨⟨k1, k2, k3⟩, -⟩ := k
  unfold SR sush
  rw [k1, k2, k3 u (by omega) (by omega) (by omega), k3 (u + 1) (by omega) (by omega) (by omega), k3 (u + 2) (by omega) (by omega) (by omega)]
  exact ⟨a1, a2, a3, a4⟩
theorem FK_mono {gk gr gk2 gr2 : Nat → Prop} (k : FK σ u P gk gr τ) (h1 : ∀ n, n < 800 → gk2 n → gk n) (h2 : ∀ n, n < 800 → gr2 n → gr n) : FK σ u P gk2 gr2 τ := ⟨k.1, fun n hn g => k.2.1 n hn (h1 n hn g), fun n hn g => k.2.2 n hn (h2 n hn g)⟩
theorem p_recs {s : Nat} {gk0 gr : Nat → Prop} (h : SR σ u P) (hs : s < P.1) (k : FK σ u P gk0 gr τ) : ∃ υ, fX7_makeRecords τ u (zi s) = some υ ∧ FK σ u P (fun n => gk0 n ∨ n / 200 = s ∧ n % 200 < P.2.2.1 s) gr υ := by
  have h2 := FK_SR h k
  have hP := h.2.2.2
  have hr := hP.2.2.2.2.1 s
  have hsd := hP.2.2.2.2.2.2 s
  have hs4 : s < 4 := by have := hP.2.1; omega
  unfold fX7_makeRecords
  rw [sg_r h2.1 (by omega) (by omega), Option.bind_some, zaI_of s h2.1.2.2.1.2.1 rfl hs4 (by decide), Option.bind_some, (h2.2.2.1 s hs4).2]
  obtain ⟨o, e1, e2⟩ := zloop_run (step := sX7_makeRecords_9 u (zi s) (zi (P.2.2.2 s))) (fuel := zfuel) (P.2.2.1 s) (fun i z => FK σ u P (fun n => gk0 n ∨ n / 200 = s ∧ n % 200 < i) gr z.1 ∧ z.2 = zi (i : Nat)) (fun o => FK σ u P (fun n => gk0 n ∨ n / 200 = s ∧ n % 200 < P.2.2.1 s) gr o) (fun i z hi hp => by
    obtain ⟨z, v⟩ := z
    obtain ⟨k2, q⟩ := hp
    dsimp only at k2 q
    subst q
    have h3 := FK_SR h k2
    have hii : i * i ≤ 199 * 199 := Nat.mul_le_mul (by omega) (by omega)
    have ek : (((zi 4)) * (((zi (P.2.2.2 s) + (zi (i : Nat) * zi (i : Nat))) + (zi (i : Nat) / ((zi 2)))) - ((zi (P.2.2.2 s) + (zi (i : Nat) * zi (i : Nat))) + (zi (i : Nat) / ((zi 2)))) / ((zi 4)) * ((zi 4)))) + zi (s : Nat) = zi (qkey P (200 * s + i)) := by
      rw [zi_div (by omega) (by omega) (by omega) (by omega), zi_mul, zi_add, zi_add]
      have hcast : ((P.2.2.2 s : Nat) : Int) + (i : Int) * (i : Int) + (i : Int) / 2 = ((P.2.2.2 s + i * i + i / 2 : Nat) : Int) := by
        rw [Int.natCast_add, Int.natCast_add, Int.natCast_mul, Int.natCast_ediv]
        rfl
      rw [hcast, zi_mod (by omega) (by omega) (by omega) (by omega), zi_mul, zi_add]
      unfold qkey
      rw [show (200 * s + i) / 200 = s by omega, show (200 * s + i) % 200 = i by omega]
      congr 1
    have ev : ((zi (P.2.2.2 s) + (((zi 7)) * zi (i : Nat))) - (zi (P.2.2.2 s) + (((zi 7)) * zi (i : Nat))) / ((zi 50)) * ((zi 50))) + ((zi 1)) = zi (qval P (200 * s + i)) := by
      rw [zi_mul, zi_add, zi_mod (by omega) (by omega) (by omega) (by omega), zi_add]
      unfold qval
      rw [show (200 * s + i) / 200 = s by omega, show (200 * s + i) % 200 = i by omega]
      congr 1
    refine Or.inl ⟨(zuI (zuI z (u + 7) (200 * s + i) (zi (qkey P (200 * s + i)))) (u + 8) (200 * s + i) (zi (qval P (200 * s + i))), zi ((i + 1 : Nat) : Int)), ?_, ⟨⟨k2.1.1, k2.1.2.1, fun a a1 a2 a3 => ?_⟩, fun n hn g => ?_, fun n hn g => ?_⟩, rfl⟩
    · unfold sX7_makeRecords_9 sX7_makeRecords_9b fX9_numberOf
      dsimp only
      rw [sg_r h3.1 (by omega) (by omega), Option.bind_some, zaI_of s h3.1.2.2.1.1 rfl hs4 (by decide), Option.bind_some, (h3.2.2.1 s hs4).1, if_neg (show ¬ zi (P.2.2.1 s : Int) ≤ zi (i : Nat) by rw [zi_le (by omega) (by omega) (by omega) (by omega)]; omega), if_neg (show ¬ zi 200 ≤ zi (i : Nat) by rw [zi_le (by omega) (by omega) (by omega) (by omega)]; omega), Option.bind_some]
      dsimp only
      rw [sg_r h3.1 (by omega) (by omega), Option.bind_some, ek, ev, zi_mul, zi_add, zsI_of (200 * s + i) h3.1.2.2.2.1 (by omega) (by omega) (by decide), Option.bind_some]
      rw [sg_r (σ := zuI z _ _ _) h3.1 (by omega) (by omega), Option.bind_some, zsI_of (σ := zuI z _ _ _) (200 * s + i) h3.1.2.2.2.2.1 (by omega) (by omega) (by decide), Option.bind_some, zi_add]
      rfl
    · rw [show (zuI (zuI z (u + 7) (200 * s + i) (zi (qkey P (200 * s + i)))) (u + 8) (200 * s + i) (zi (qval P (200 * s + i)))).2.1 a = (zuI z (u + 7) (200 * s + i) (zi (qkey P (200 * s + i)))).2.1 a from zu_off _ _ _ a2, show (zuI z (u + 7) (200 * s + i) (zi (qkey P (200 * s + i)))).2.1 a = z.2.1 a from zu_off _ _ _ a1]
      exact k2.1.2.2 a a1 a2 a3
    · rw [zuI_row, if_neg (by omega), zuI_row, zuI_row]
      by_cases e : n = 200 * s + i
      · subst e
        rw [if_pos ⟨rfl, rfl⟩, if_pos ⟨rfl, rfl⟩]
        exact ⟨rfl, rfl⟩
      · rw [if_neg (fun q => e q.2), if_neg (fun q => e q.2), zuI_row, if_neg (by omega)]
        exact k2.2.1 n hn (by
          rcases g with g | g
          · exact Or.inl g
          · exact Or.inr (by omega))
    · rw [zuI_row, if_neg (by omega), zuI_row, if_neg (by omega)]
      exact k2.2.2 n hn g) (fun z hp => by
    obtain ⟨z, v⟩ := z
    obtain ⟨k2, q⟩ := hp
    dsimp only at k2 q
    subst q
    have h3 := FK_SR h k2
    refine ⟨z, ?_, k2⟩
    unfold sX7_makeRecords_9 sX7_makeRecords_9b
    dsimp only
    rw [sg_r h3.1 (by omega) (by omega), Option.bind_some, zaI_of s h3.1.2.2.1.1 rfl hs4 (by decide), Option.bind_some, (h3.2.2.1 s hs4).1, if_pos ((zi_le (by omega) (by omega) (by omega) (by omega)).2 (by omega))]) (zfuel_lt (by omega)) (s := (τ, zi 0)) ⟨FK_mono k (fun n _ g => by
    rcases g with g | g
    · exact g
    · omega) (fun n _ g => g), rfl⟩
  rw [e1]
  exact ⟨o, rfl, e2⟩
end PFI
