/-! The class's flow starts from a draft that is told. -/
section PIS
variable {σ : zS} {f b u v : Nat} {V W : Nat → Nat → Int32} {D : pD}
/-- the flow that a draft starts -/
def pM (D : pD) : qM := qstart (pse0 D 4) (pse0 D 6) (pse0 D 7) (if pse0 D 8 = 1 then 1 else 0) (fun s => (D.2.2.2.1 s : Nat))
theorem k_recover00 (hS : fsh σ f) (hx : fx b) (h0 : V (31 - b) 0 = zi 0) (hL : LL V 6 fun _ => []) : ∃ W, fX1_recover (fput σ f V b u) f = some (fput σ f W b u) ∧ W b 0 = zi 0 ∧ W (31 - b) 0 = zi 0 ∧ (∀ j, j ≠ 7 → W 0 j = V 0 j) ∧ W 1 = V 1 ∧ row (W 2) 4 (fun _ => 0) ∧ row (W 3) 16 (fun _ => 0) ∧ row (W 4) 4 (fun _ => 0) ∧ row (W 5) 6 (fun _ => 0) ∧ row (W 29) 6 (fun _ => 0) ∧ row (W 30) 24 (fun _ => -1) ∧ LL W 6 fun _ => [] := by
  have hx2 := fx_other hx
  have hbb : b = 11 ∨ b = 20 := hx
  have ex : ∀ V : Nat → Nat → Int32, V (31 - b) 0 = zi 0 → fX0_exists (fput σ f V b u) (f + (31 - b)) = some (fput σ f V b u, zb false) := fun V h0 => by
    unfold fX0_exists
    rw [cg_i hS hx2.1, Option.bind_some, h0, if_pos (by decide), zrZ_0]
    rfl
  have hD0 : LD (fun _ => ([] : List Nat)) := ⟨fun _ _ => List.nodup_nil, fun l k n _ _ h _ => by cases h⟩
  have e1 : fX1_showLatest (fput σ f V b u) f = some (fput σ f V b u) := by
    unfold fX1_showLatest
    rw [fr_16 hS, Option.bind_some, fc_0 hS hx2.1, ex V h0, Option.bind_some]
    exact if_pos rfl
  obtain ⟨W2, e2, hW2, fW2⟩ := k_clears (σ := σ) (f := f) (b := b) (u := u) hS ⟨hL, hD0⟩
  obtain ⟨V3, hV3⟩ : ∃ V3, V3 = vs W2 b 0 (zi 0) := ⟨_, rfl⟩
  have f1 := c_fill (σ := σ) (f := f) (b := b) (u := u) (V := V3) (x := zi (-1)) 30 hS (by omega) (by decide)
  obtain ⟨V4, hV4⟩ : ∃ V4, V4 = vw V3 30 (fun j => if j < flen 30 then zi (-1) else V3 30 j) := ⟨_, rfl⟩
  rw [← hV4] at f1
  have f2 := c_fill (σ := σ) (f := f) (b := b) (u := u) (V := V4) (x := zi 0) 5 hS (by omega) (by decide)
  obtain ⟨V5, hV5⟩ : ∃ V5, V5 = vw V4 5 (fun j => if j < flen 5 then zi 0 else V4 5 j) := ⟨_, rfl⟩
  rw [← hV5] at f2
  have f3 := c_fill (σ := σ) (f := f) (b := b) (u := u) (V := V5) (x := zi 0) 29 hS (by omega) (by decide)
  obtain ⟨V6, hV6⟩ : ∃ V6, V6 = vw V5 29 (fun j => if j < flen 29 then zi 0 else V5 29 j) := ⟨_, rfl⟩
  rw [← hV6] at f3
  have f4 := c_fill (σ := σ) (f := f) (b := b) (u := u) (V := V6) (x := zi 0) 4 hS (by omega) (by decide)
  obtain ⟨V7, hV7⟩ : ∃ V7, V7 = vw V6 4 (fun j => if j < flen 4 then zi 0 else V6 4 j) := ⟨_, rfl⟩
  rw [← hV7] at f4
  obtain ⟨V8, hV8⟩ : ∃ V8, V8 = vs V7 0 7 (V7 0 7 + zi 1) := ⟨_, rfl⟩
  have f5 := c_fill (σ := σ) (f := f) (b := b) (u := u) (V := V8) (x := zi 0) 2 hS (by omega) (by decide)
  obtain ⟨V9, hV9⟩ : ∃ V9, V9 = vw V8 2 (fun j => if j < flen 2 then zi 0 else V8 2 j) := ⟨_, rfl⟩
  rw [← hV9] at f5
  have f6 := c_fill (σ := σ) (f := f) (b := b) (u := u) (V := V9) (x := zi 0) 3 hS (by omega) (by decide)
  obtain ⟨VA, hVA⟩ : ∃ VA, VA = vw V9 3 (fun j => if j < flen 3 then zi 0 else V9 3 j) := ⟨_, rfl⟩
  rw [← hVA] at f6
  have w8 : ∀ p, p ≠ b → p ≠ 30 → p ≠ 5 → p ≠ 29 → p ≠ 4 → p ≠ 0 → V8 p = W2 p := fun p p1 p2 p3 p4 p5 p6 => by
    rw [hV8, vs_no p6, hV7, vw_ne p5, hV6, vw_ne p4, hV5, vw_ne p3, hV4, vw_ne p2, hV3, vs_no p1]
  have wA : ∀ p, p ≠ 2 → p ≠ 3 → VA p = V8 p := fun p p1 p2 => by rw [hVA, vw_ne p2, hV9, vw_ne p1]
  have w0 : V8 (31 - b) 0 = zi 0 := by
    rw [w8 _ (by omega) (by omega) (by omega) (by omega) (by omega) (by omega), fW2 _ (by omega), h0]
  refine ⟨VA, ?_, ?_, ?_, fun j hj => ?_, ?_, fun j hj => ?_, fun j hj => ?_, fun j hj => ?_, fun j hj => ?_, fun j hj => ?_, fun j hj => ?_, ?_⟩
  · unfold fX1_recover
    rw [fc_1 hS, e1, Option.bind_some, e2, Option.bind_some, fr_15 hS, Option.bind_some, cp_i hS hx, Option.bind_some, ← hV3, fr_19 hS, Option.bind_some, f1, Option.bind_some, fr_13 hS, Option.bind_some, f2, Option.bind_some, fr_18 hS, Option.bind_some, f3, Option.bind_some, fr_12 hS, Option.bind_some, f4, Option.bind_some, fg_i hS, Option.bind_some, fp_i hS, Option.bind_some, ← hV8, fr_16 hS, Option.bind_some, fc_0 hS hx2.1, ex V8 w0, Option.bind_some]
    dsimp only
    rw [if_pos zf, fr_10 hS, Option.bind_some, f5, Option.bind_some, fr_11 hS, Option.bind_some, f6, Option.bind_some]
  · rw [wA _ (by omega) (by omega), hV8, vs_no (by omega), hV7, vw_ne (by omega), hV6, vw_ne (by omega), hV5, vw_ne (by omega), hV4, vw_ne (by omega), hV3, vs_at]
  · rw [wA _ (by omega) (by omega), w0]
  · rw [wA _ (by omega) (by omega), hV8, vs_ne (by omega), hV7, vw_ne (by omega), hV6, vw_ne (by omega), hV5, vw_ne (by omega), hV4, vw_ne (by omega), hV3, vs_no (by omega), fW2 0 (by omega)]
  · rw [wA _ (by omega) (by omega), w8 _ (by omega) (by omega) (by omega) (by omega) (by omega) (by omega), fW2 1 (by omega)]
  · rw [hVA, vw_ne (by omega), hV9, vw_at, if_pos (show j < flen 2 from hj)]
  · rw [hVA, vw_at, if_pos (show j < flen 3 from hj)]
  · rw [wA _ (by omega) (by omega), hV8, vs_no (by omega), hV7, vw_at, if_pos (show j < flen 4 from hj)]
  · rw [wA _ (by omega) (by omega), hV8, vs_no (by omega), hV7, vw_ne (by omega), hV6, vw_ne (by omega), hV5, vw_at, if_pos (show j < flen 5 from hj)]
  · rw [wA _ (by omega) (by omega), hV8, vs_no (by omega), hV7, vw_ne (by omega), hV6, vw_at, if_pos (show j < flen 29 from hj)]
  · rw [wA _ (by omega) (by omega), hV8, vs_no (by omega), hV7, vw_ne (by omega), hV6, vw_ne (by omega), hV5, vw_ne (by omega), hV4, vw_at, if_pos (show j < flen 30 from hj)]
  · refine LL_of2 hW2.1 (fun p p1 p2 => ?_) (fun c hc => ?_)
    · rw [wA _ (by omega) (by omega), w8 _ (by omega) (by omega) (by omega) (by omega) (by omega) (by omega)]
    · split <;> rfl
theorem fz_3 {d : Bool} (h : fsh σ f) : zpZ 1 3 (fput σ f V b u) f (zb d) = some (fput σ f (vs V 0 3 (zb d)) b u) := by
  have := fp_i (V := V) (b := b) (u := u) (j := 3) (v := zb d) h
  unfold zpZ
  unfold zpI at this
  rw [if_pos ⟨h.1, by cases d <;> decide⟩]
  rwa [if_pos (show ((fput σ f V b u).1 f).1 = 1 + 5 from h.1)] at this
theorem k_start (hS : fsh σ f) (hx : fx b) (hu : u + 10 ≤ f ∨ f + 31 ≤ u) (hs : sush σ u) (hD : PD σ u D) (hv : ∀ k v, D.2.2.2.2.2 k = some v → v < 1000) : ∃ W, fX1_start (fput σ f V b v) f u = some (fput σ f W b u) ∧ RC W b (pM D) := by
  have hx2 := fx_other hx
  have hbb : b = 11 ∨ b = 20 := hx
  have hs2 : ∀ V : Nat → Nat → Int32, sush (fput σ f V b u) u := fun V => sush_eq hs (zfr_eq zfr_put (by omega))
  have hD2 : ∀ V : Nat → Nat → Int32, PD (fput σ f V b u) u D := fun V => by
    have e : ∀ o, o < 10 → (fput σ f V b u).2.1 (u + o) = σ.2.1 (u + o) := fun o ho => (zfr_eq (l2 := u) (h2 := u + 10) (zfr_put (σ := σ) (f := f) (V := V) (b := b) (u := u)) (by omega) (u + o) (by omega) (by omega)).2.1
    unfold PD NM
    rw [show (fput σ f V b u).2.1 u = σ.2.1 u from e 0 (by omega), e 1 (by omega), e 2 (by omega), e 3 (by omega), e 4 (by omega), e 5 (by omega), e 6 (by omega)]
    exact hD
  have ch : ∀ (V : Nat → Nat → Int32) (w : Nat), w < 9 → 4 ≤ w → fX7_chosen (fput σ f V b u) u w = some (fput σ f V b u, zi (pse0 D w)) := fun V w h1 h2 => p_chosen (hs2 V) (hD2 V) h1 h2 hv
  have c7 : ∀ (V : Nat → Nat → Int32) (o : Option (zS × Int32)), zck 7 (fput σ f V b u) u o = o := fun V o => if_pos (hs2 V).1
  obtain ⟨V1, hV1⟩ : ∃ V1, V1 = vs (vs (vs V 0 0 (zi (pse0 D 4))) 0 1 (zi (pse0 D 6))) 0 2 (zi (pse0 D 7)) := ⟨_, rfl⟩
  have main : ∀ d : Bool, ∃ W, jX1_start_67 (fput σ f V1 b u) f (zb d) f = some (fput σ f W b u) ∧ RC W b (qstart (pse0 D 4) (pse0 D 6) (pse0 D 7) (if d then 1 else 0) (fun s => (D.2.2.2.1 s : Nat))) := by
    intro d
    obtain ⟨V2, hV2⟩ : ∃ V2, V2 = vs (vs (vs (vs (vs V1 0 3 (zb d)) 0 4 (zi 0)) 0 5 (zi 0)) 0 6 (zi 0)) 0 8 (zi 0) := ⟨_, rfl⟩
    have e1 := c_copy (σ := σ) (f := f) (b := b) (u := u) (V := V2) (a := u + 3) (g := σ.2.1 (u + 3)) 1 hS (by omega) (by decide) hs.2.2.1.2.2.1 ((zfr_eq (l2 := u) (h2 := u + 10) (zfr_put (σ := σ) (f := f) (V := V2) (b := b) (u := u)) (by omega) (u + 3) (by omega) (by omega)).2.1)
    obtain ⟨V3, hV3⟩ : ∃ V3, V3 = vw V2 1 (fun j => if j < flen 1 then σ.2.1 (u + 3) j else V2 1 j) := ⟨_, rfl⟩
    rw [← hV3] at e1
    obtain ⟨V4, hV4⟩ : ∃ V4, V4 = vs V3 (31 - b) 0 (zi 0) := ⟨_, rfl⟩
    obtain ⟨V5, e2, hL, fL⟩ := c_clearAll (σ := σ) (f := f) (b := b) (u := u) (V := V4) (o := 6) hS (Or.inl rfl)
    obtain ⟨W, e3, w1, w2, w3, w4, w5, w6, w7, w8, w9, w10, w11⟩ := k_recover00 (σ := σ) (f := f) (b := b) (u := u) (V := V5) hS hx (by rw [fL _ (by omega), hV4, vs_at]) hL
    refine ⟨vs W 0 7 (zi 0), ?_, hx, ⟨fun j hj => ?_, fun j hj => ?_, ?_, ?_, ?_, ?_, ?_, ?_, ?_⟩, ⟨?_, fun q => absurd q (show ¬ (0 : Int) = 1 from by decide)⟩, ⟨?_, fun q => absurd q (show ¬ (0 : Int) = 1 from by decide)⟩⟩
    · unfold jX1_start_67
      rw [fz_3 hS, Option.bind_some, fp_i hS, Option.bind_some, fp_i hS, Option.bind_some, fp_i hS, Option.bind_some, fp_i hS, Option.bind_some, ← hV2, fr_17 hS, Option.bind_some, sg_r (j := 4) (hs2 V2) (by omega) (by omega), Option.bind_some, fr_9 hS, Option.bind_some, e1, Option.bind_some, fr_16 hS, Option.bind_some, cp_i hS hx2.1, Option.bind_some, ← hV4, fr_14 hS, Option.bind_some, show ∀ o : Option zS, zck 3 (fput σ f V4 b u) (f + 6) o = o from fun o => if_pos hS.2.2.1.1, e2, Option.bind_some, fc_1 hS, e3, Option.bind_some, fp_i hS, Option.bind_some]
    · by_cases e7 : j = 7
      · subst e7
        rw [vs_at]
        rfl
      · rw [vs_ne (by omega), w3 j e7, fL 0 (by omega), hV4, vs_no (by omega), hV3, vw_ne (by omega), hV2, hV1]
        have : j = 0 ∨ j = 1 ∨ j = 2 ∨ j = 3 ∨ j = 4 ∨ j = 5 ∨ j = 6 ∨ j = 8 := by omega
        rcases this with rfl | rfl | rfl | rfl | rfl | rfl | rfl | rfl <;> simp [vs, gF, qstart]
        cases d <;> rfl
    · rw [vs_no (by omega), w4, fL 1 (by omega), hV4, vs_no (by omega), hV3, vw_at, if_pos (show j < flen 1 from hj), (hD.2.1 j hj).2.2]
      unfold qstart
      dsimp only
      rw [if_neg (by omega), if_neg (by omega), if_neg (by omega), if_neg (by omega), if_pos (by omega), show 9 + j - 9 = j by omega]
    · rw [vs_no (by omega)]
      refine row_of w5 (fun _ _ => rfl) (fun j hj => ?_)
      unfold qstart
      dsimp only
      rw [if_neg (by omega), if_neg (by omega), if_neg (by omega), if_neg (by omega), if_neg (by omega)]
    · rw [vs_no (by omega)]
      refine row_of w6 (fun _ _ => rfl) (fun j hj => ?_)
      unfold qstart
      dsimp only
      rw [if_neg (by omega), if_neg (by omega), if_neg (by omega), if_neg (by omega), if_neg (by omega)]
    · rw [vs_no (by omega)]
      refine row_of w7 (fun _ _ => rfl) (fun j hj => ?_)
      unfold qstart
      dsimp only
      rw [if_neg (by omega), if_neg (by omega), if_neg (by omega), if_neg (by omega), if_neg (by omega)]
    · rw [vs_no (by omega)]
      refine row_of w8 (fun _ _ => rfl) (fun j hj => ?_)
      have z : ∀ x, (qstart (pse0 D 4) (pse0 D 6) (pse0 D 7) (if d then 1 else 0) (fun s => (D.2.2.2.1 s : Nat))).1 (43 + x) = 0 := fun x => by
        unfold qstart
        dsimp only
        rw [if_neg (by omega), if_neg (by omega), if_neg (by omega), if_neg (by omega), if_neg (by omega)]
      unfold gmask
      dsimp only
      rw [z, z, z, z]
      rfl
    · rw [vs_no (by omega)]
      refine row_of w9 (fun _ _ => rfl) (fun j hj => ?_)
      unfold qstart
      dsimp only
      rw [if_neg (by omega), if_neg (by omega), if_neg (by omega), if_neg (by omega), if_neg (by omega)]
    · rw [vs_no (by omega)]
      exact w10
    · exact LL_of2 w11 (fun p p1 p2 => vs_no (by omega)) (fun _ _ => rfl)
    · rw [vs_no (by omega), w1]
      rfl
    · rw [vs_no (by omega), w2]
      rfl
  unfold fX1_start pM
  rw [fp_17 hS, Option.bind_some, fr_17 hS, Option.bind_some, c7, ch _ 4 (by omega) (by omega), Option.bind_some, fp_i hS, Option.bind_some, fr_17 hS, Option.bind_some, c7, ch _ 6 (by omega) (by omega), Option.bind_some, fp_i hS, Option.bind_some, fr_17 hS, Option.bind_some, c7, ch _ 7 (by omega) (by omega), Option.bind_some, fp_i hS, Option.bind_some, ← hV1, fr_17 hS, Option.bind_some, c7, ch _ 8 (by omega) (by omega), Option.bind_some]
  dsimp only
  have h8 : -1 ≤ pse0 D 8 ∧ pse0 D 8 < 1000 := by
    unfold pse0
    cases hS : D.2.2.2.2.2 (8 - 4) with
    | none => decide
    | some v =>
      have := hv _ _ hS
      dsimp only
      omega
  by_cases e : pse0 D 8 = 1
  · rw [if_pos (by rw [e]), if_pos e]
    exact main true
  · rw [if_neg (show ¬ zi (pse0 D 8) = zi 1 by rw [zi_eq (by omega) (by omega) (by omega) (by omega)]; exact e), if_neg e]
    exact main false
end PIS
