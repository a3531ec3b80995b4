/-! The class's flow: what stays; a checkpoint begins; the latest is shown. -/
theorem LL_of2 {V W : Nat → Nat → Int32} {o : Nat} {L K : Nat → List Nat} (h : LL V o L) (hw : ∀ p, o < p → p < o + 5 → W p = V p) (hk : ∀ l, l < 30 → K l = L l) : LL W o K := fun l hl => by
  rw [hk l hl, hw (o + 1) (by omega) (by omega), hw (o + 2) (by omega) (by omega), hw (o + 3) (by omega) (by omega), hw (o + 4) (by omega) (by omega)]
  exact h l hl
theorem gK_of {M N : qM} {o : Nat} (h : ∀ c, o ≤ c → c < o + 24 → N.2.1 c = M.2.1 c) : gK N o = gK M o := by
  funext c
  unfold gK
  by_cases e : c < 24
  · rw [if_pos e, if_pos e]; exact h (o + c) (by omega) (by omega)
  · rw [if_neg e, if_neg e]
theorem gtot_of {M N : qM} {o : Nat} (h : ∀ c, o ≤ c → c < o + 24 → N.2.1 c = M.2.1 c) : gtot N o = gtot M o := by
  unfold gtot
  refine congrArg List.sum (List.map_congr_left (fun c hc => ?_))
  rw [List.mem_range] at hc
  rw [h (o + c) (by omega) (by omega)]
theorem gmask_of {g k : Nat → Int} (h : ∀ x, x < 4 → g x = k x) : gmask g = gmask k := by
  unfold gmask
  rw [h 0 (by omega), h 1 (by omega), h 2 (by omega), h 3 (by omega)]
theorem RF_of {V W : Nat → Nat → Int32} {M N : qM} (h : RF V M) (h0 : row (W 0) 9 (gF N)) (hw : ∀ p, (1 ≤ p ∧ p ≤ 10 ∨ p = 29 ∨ p = 30) → W p = V p) (hn : ∀ k, 9 ≤ k → k < 67 → N.1 k = M.1 k) (hl : ∀ c, c < 30 → N.2.1 c = M.2.1 c) (hb : ∀ c, c < 24 → N.2.2 c = M.2.2 c) : RF W N := by
  obtain ⟨a0, a1, a2, a3, a4, a5, a6, a7, a8⟩ := h
  refine ⟨h0, row_of a1 (fun j _ => by rw [hw 1 (by omega)]) (fun j hj => hn _ (by omega) (by omega)), row_of a2 (fun j _ => by rw [hw 2 (by omega)]) (fun j hj => hn _ (by omega) (by omega)), row_of a3 (fun j _ => by rw [hw 3 (by omega)]) (fun j hj => hn _ (by omega) (by omega)), row_of a4 (fun j _ => by rw [hw 4 (by omega)]) (fun j hj => hn _ (by omega) (by omega)),
    row_of a5 (fun j _ => by rw [hw 5 (by omega)]) (fun j hj => gmask_of fun x hx => hn _ (by omega) (by omega)), row_of a6 (fun j _ => by rw [hw 29 (by omega)]) (fun j hj => hn _ (by omega) (by omega)), row_of a7 (fun j _ => by rw [hw 30 (by omega)]) (fun j hj => hb _ (by omega)), LL_of2 a8 (fun p h1 h2 => hw p (by omega)) (fun l hl2 => hl l hl2)⟩
theorem RP_of {V W : Nat → Nat → Int32} {b : Nat} {M N : qM} (h : RP V b M) (hw : ∀ p, b ≤ p → p ≤ b + 8 → W p = V p) (hn : ∀ k, (k = 5 ∨ 67 ≤ k ∧ k < 118) → N.1 k = M.1 k) (hl : ∀ c, 30 ≤ c → c < 54 → N.2.1 c = M.2.1 c) : RP W b N := by
  obtain ⟨a0, a1⟩ := h
  refine ⟨by rw [hw b (by omega) (by omega), hn 67 (by omega), hn 5 (by omega)]; exact a0, fun e => ?_⟩
  rw [hn 67 (by omega)] at e
  obtain ⟨c1, c3, c4, c5, c6, r1, r2, r3, l⟩ := a1 e
  refine ⟨?_, ?_, ?_, ?_, ?_, row_of r1 (fun j _ => by rw [hw (b + 1) (by omega) (by omega)]) (fun j hj => gmask_of fun x hx => hn _ (by omega)), row_of r2 (fun j _ => by rw [hw (b + 2) (by omega) (by omega)]) (fun j hj => hn _ (by omega)), row_of r3 (fun j _ => by rw [hw (b + 3) (by omega) (by omega)]) (fun j hj => hn _ (by omega)), LL_of2 l (fun p h1 h2 => hw p (by omega) (by omega)) (fun l hl2 => by rw [gK_of hl])⟩
  · rw [hw b (by omega) (by omega), hn 68 (by omega)]; exact c1
  · rw [hw b (by omega) (by omega), hn 69 (by omega)]; exact c3
  · rw [hw b (by omega) (by omega)]; exact c4
  · rw [hw b (by omega) (by omega), c5]; exact congrArg zi (gmask_of fun x hx => (hn _ (by omega)).symm)
  · rw [hw b (by omega) (by omega), c6, gtot_of hl]
theorem RL_of {V W : Nat → Nat → Int32} {b : Nat} {M N : qM} (h : RLt V b M) (hw : ∀ p, b ≤ p → p ≤ b + 8 → W p = V p) (hn : ∀ k, 118 ≤ k → k < 144 → N.1 k = M.1 k) (hl : ∀ c, 54 ≤ c → c < 78 → N.2.1 c = M.2.1 c) : RLt W b N := by
  obtain ⟨a0, a1⟩ := h
  refine ⟨by rw [hw b (by omega) (by omega), hn 118 (by omega) (by omega), hn 119 (by omega) (by omega)]; exact a0, fun e => ?_⟩
  rw [hn 118 (by omega) (by omega)] at e
  obtain ⟨c1, c2, c3, c4, c6, r2, r3, l⟩ := a1 e
  refine ⟨?_, ?_, ?_, ?_, ?_, row_of r2 (fun j _ => by rw [hw (b + 2) (by omega) (by omega)]) (fun j hj => hn _ (by omega) (by omega)), row_of r3 (fun j _ => by rw [hw (b + 3) (by omega) (by omega)]) (fun j hj => hn _ (by omega) (by omega)), LL_of2 l (fun p h1 h2 => hw p (by omega) (by omega)) (fun l hl2 => by rw [gK_of hl])⟩
  · rw [hw b (by omega) (by omega), hn 120 (by omega) (by omega)]; exact c1
  · rw [hw b (by omega) (by omega), hn 121 (by omega) (by omega)]; exact c2
  · rw [hw b (by omega) (by omega), hn 122 (by omega) (by omega)]; exact c3
  · rw [hw b (by omega) (by omega), hn 123 (by omega) (by omega)]; exact c4
  · rw [hw b (by omega) (by omega), c6, gtot_of hl]
theorem flen_k {x : Nat} (h : fx x) : flen (x + 1) = 6 ∧ flen (x + 2) = 4 ∧ flen (x + 3) = 16 ∧ x ≤ 20 ∧ 11 ≤ x := by rcases h with rfl | rfl <;> exact ⟨rfl, rfl, rfl, by omega, by omega⟩
theorem fx_far {b p : Nat} (h : fx b) (h1 : b ≤ p) (h2 : p ≤ b + 8) : ¬ (31 - b ≤ p ∧ p ≤ 31 - b + 8) := by rcases h with rfl | rfl <;> omega
section KB
variable {σ : zS} {f b u : Nat} {V : Nat → Nat → Int32} {M : qM} {P : qP}
theorem k_begin {ov : Int} (h : fsh σ f) (hC : RC V b M) (hov : ov = 0 ∨ ov = 1) : ∃ W, fX1_startCheckpoint (fput σ f V b u) f (zi ov) = some (fput σ f W b u) ∧ RC W b (qbegin ov M) := by
  obtain ⟨hx, hF, hP, hL⟩ := hC
  obtain ⟨k1, k2, k3, k4, k5⟩ := flen_k hx
  have h05 : V 0 5 = zi (M.1 5) := hF.1 5 (by omega)
  have h04 : V 0 4 = zi (M.1 0) := hF.1 4 (by omega)
  obtain ⟨W, eW, hW, fW⟩ := c_clearAll (σ := σ) (f := f) (b := b) (u := u) (V := vw (vw (vw (vs (vs (vs (vs (vs (vs (vs (vs V 0 5 (zi (M.1 5 + 1))) b 0 (zi (M.1 5 + 1))) b 1 (zi (M.1 0))) b 2 (zi (-1))) b 3 (zi ov)) b 4 (zi 0)) b 5 (zi 0)) b 6 (zi 0)) (b + 1) (fun j => if j < flen (b + 1) then zi 0 else V (b + 1) j)) (b + 2) (fun j => if j < flen (b + 2) then zi 0 else V (b + 2) j)) (b + 3) (fun j => if j < flen (b + 3) then zi 0 else V (b + 3) j)) h (fx_o hx)
  refine ⟨W, ?_, hx, ?_, ?_, ?_⟩
  · unfold fX1_startCheckpoint
    rw [fg_i h, Option.bind_some, h05, zi_add, fp_i h, Option.bind_some, fr_15 h, Option.bind_some, fg_i h, Option.bind_some, fg_i h, Option.bind_some, vs_at, vs_ne (by omega), h04, fc_0 h hx]
    unfold fX0_start
    rw [cp_i h hx, Option.bind_some, cp_i h hx, Option.bind_some, cp_i h hx, Option.bind_some, cp_z h hx (by rcases hov with rfl | rfl; exact Or.inl rfl; exact Or.inr rfl), Option.bind_some, cp_z h hx (Or.inl rfl), Option.bind_some, cp_i h hx, Option.bind_some, cp_i h hx, Option.bind_some,
      cr_7 h hx, Option.bind_some, c_fill (b + 1) h (by omega) (by omega), Option.bind_some, cr_8 h hx, Option.bind_some, c_fill (b + 2) h (by omega) (by omega), Option.bind_some, cr_9 h hx, Option.bind_some, c_fill (b + 3) h (by omega) (by omega), Option.bind_some, cr_10 h hx, Option.bind_some, fc_3 h (fx_o hx)]
    rw [vw_ne (by omega), vw_ne (by omega), vw_ne (by omega), vs_no (by omega), vs_no (by omega), vs_no (by omega), vs_no (by omega), vs_no (by omega), vs_no (by omega), vs_no (by omega), vs_no (by omega),
      vs_no (by omega), vs_no (by omega), vs_no (by omega), vs_no (by omega), vs_no (by omega), vs_no (by omega), vs_no (by omega), vs_no (by omega), vs_no (by omega), vs_no (by omega), vs_no (by omega), vs_no (by omega), vs_no (by omega), vs_no (by omega), vs_no (by omega), vs_no (by omega), eW, Option.bind_some, Option.bind_some]
  · refine RF_of hF (fun j hj => ?_) (fun p hp => ?_) (fun k h1 h2 => ?_) (fun c hc => ?_) (fun c _ => rfl)
    · rw [fW 0 (by omega), vw_ne (by omega), vw_ne (by omega), vw_ne (by omega), vs_no (by omega), vs_no (by omega), vs_no (by omega), vs_no (by omega), vs_no (by omega), vs_no (by omega), vs_no (by omega)]
      by_cases e : j = 5
      · rw [e, vs_at]
        refine congrArg zi ?_
        unfold gF qbegin
        rfl
      · rw [vs_ne (by omega), hF.1 j hj]
        refine congrArg zi ?_
        unfold gF qbegin
        dsimp only
        have : j = 0 ∨ j = 1 ∨ j = 2 ∨ j = 3 ∨ j = 4 ∨ j = 6 ∨ j = 7 ∨ j = 8 := by omega
        rcases this with rfl | rfl | rfl | rfl | rfl | rfl | rfl | rfl <;> rfl
    · rw [fW p (by omega), vw_ne (by omega), vw_ne (by omega), vw_ne (by omega), vs_no (by omega), vs_no (by omega), vs_no (by omega), vs_no (by omega), vs_no (by omega), vs_no (by omega), vs_no (by omega), vs_no (by omega)]
    · unfold qbegin
      dsimp only
      rw [if_neg (by omega), if_neg (by omega), if_neg (by omega), if_neg (by omega), if_neg (by omega)]
    · unfold qbegin
      dsimp only
      rw [if_neg (by omega)]
  · have W0 : ∀ j, W b j = (vs (vs (vs (vs (vs (vs (vs (vs V 0 5 (zi (M.1 5 + 1))) b 0 (zi (M.1 5 + 1))) b 1 (zi (M.1 0))) b 2 (zi (-1))) b 3 (zi ov)) b 4 (zi 0)) b 5 (zi 0)) b 6 (zi 0)) b j := fun j => by
      rw [fW b (by omega), vw_ne (by omega), vw_ne (by omega), vw_ne (by omega)]
    have z0 : ∀ k, 70 ≤ k → k < 118 → (qbegin ov M).1 k = 0 := fun k h1 h2 => by
      unfold qbegin
      dsimp only
      rw [if_pos (by omega)]
    have zm : ∀ a, 70 ≤ a → a + 4 ≤ 118 → gmask (fun x => (qbegin ov M).1 (a + x)) = 0 := fun a h1 h2 => by
      unfold gmask
      dsimp only
      rw [z0 _ (by omega) (by omega), z0 _ (by omega) (by omega), z0 _ (by omega) (by omega), z0 _ (by omega) (by omega)]
      rfl
    have zk : gK (qbegin ov M) 30 = fun _ => [] := by
      funext c
      unfold gK
      by_cases e : c < 24
      · rw [if_pos e]
        unfold qbegin
        dsimp only
        rw [if_pos (by omega)]
      · rw [if_neg e]
    have zt : gtot (qbegin ov M) 30 = 0 := by
      unfold gtot qbegin
      dsimp only
      rw [show (List.range 24).map (fun c => (if 30 ≤ 30 + c ∧ 30 + c < 54 then [] else M.2.1 (30 + c)).length) = (List.range 24).map (fun _ => 0) from List.map_congr_left (fun c hc => by
        rw [List.mem_range] at hc
        rw [if_pos (by omega)]
        rfl)]
      rfl
    refine ⟨?_, fun _ => ⟨?_, ?_, ?_, ?_, ?_, fun j hj => ?_, fun j hj => ?_, fun j hj => ?_, ?_⟩⟩
    · rw [W0, vs_ne (by omega), vs_ne (by omega), vs_ne (by omega), vs_ne (by omega), vs_ne (by omega), vs_ne (by omega), vs_at]
      rfl
    · rw [W0, vs_ne (by omega), vs_ne (by omega), vs_ne (by omega), vs_ne (by omega), vs_ne (by omega), vs_at]
      rfl
    · rw [W0, vs_ne (by omega), vs_ne (by omega), vs_ne (by omega), vs_at]
      rfl
    · rw [W0, vs_ne (by omega), vs_ne (by omega), vs_at]
    · rw [W0, vs_ne (by omega), vs_at, zm 70 (by omega) (by omega)]
    · rw [W0, vs_at, zt]
      rfl
    · rw [fW (b + 1) (by omega), vw_ne (by omega), vw_ne (by omega), vw_at, if_pos (by omega)]
      refine congrArg zi ?_
      rw [← zm (74 + 4 * j) (by omega) (by omega)]
      exact gmask_of fun x hx => by rw [show 74 + 4 * j + x = 74 + (4 * j + x) from by omega]
    · rw [fW (b + 2) (by omega), vw_ne (by omega), vw_at, if_pos (by omega)]
      exact congrArg zi (z0 (98 + j) (by omega) (by omega)).symm
    · rw [fW (b + 3) (by omega), vw_at, if_pos (by omega)]
      exact congrArg zi (z0 (102 + j) (by omega) (by omega)).symm
    · rw [zk]; exact hW
  · refine RL_of hL (fun p h1 h2 => ?_) (fun k h1 h2 => ?_) (fun c h1 h2 => ?_)
    · have hp := (fx_far (fx_other hx).1 h1 h2)
      have e9 : 31 - (31 - b) = b := by omega
      rw [e9] at hp
      have := flen_k (fx_other hx).1
      rw [fW p (by omega), vw_ne (by omega), vw_ne (by omega), vw_ne (by omega), vs_no (by omega), vs_no (by omega), vs_no (by omega), vs_no (by omega), vs_no (by omega), vs_no (by omega), vs_no (by omega), vs_no (by omega)]
    · unfold qbegin
      dsimp only
      rw [if_neg (by omega), if_neg (by omega), if_neg (by omega), if_neg (by omega), if_neg (by omega)]
    · unfold qbegin
      dsimp only
      rw [if_neg (by omega)]
end KB
