/-! The class's flow recovers. -/
def qfl (N : qM) : qM :=
  ((fun k => if k = 67 then 0 else if k = 7 then N.1 7 + 1 else if 13 ≤ k ∧ k < 33 then N.1 (k + 111) else if 33 ≤ k ∧ k < 67 then 0 else N.1 k),
   (fun c => if c < 24 then N.2.1 (54 + c) else if c < 28 then [] else if 30 ≤ c ∧ c < 54 then [] else N.2.1 c), fun _ => -1)
theorem qfail_qfl {P : qP} {M : qM} : qfail P M = qfl (qshow P M) := rfl
section KRc
variable {σ : zS} {f b u : Nat} {V W : Nat → Nat → Int32} {M N : qM} {P : qP}
theorem LDI_fail (hI : qI P M) : LD (qfail P M).2.1 := LD_I (qI_fail hI)
theorem RC_fail (hC : RC V b N) (hb : W b 0 = zi 0) (h0 : ∀ j, j < 9 → j ≠ 7 → W 0 j = V 0 j) (h07 : W 0 7 = zi (N.1 7 + 1)) (h1 : W 1 = V 1) (h2 : row (W 2) 4 (fun s => N.1 (124 + s))) (h3 : row (W 3) 16 (fun k => N.1 (128 + k))) (h4 : row (W 4) 4 (fun _ => 0)) (h5 : row (W 5) 6 (fun _ => 0)) (h29 : row (W 29) 6 (fun _ => 0)) (h30 : row (W 30) 24 (fun _ => -1))
    (hL : LL W 6 (fun c => if c < 24 then N.2.1 (54 + c) else if c < 28 then [] else N.2.1 c)) (hl : ∀ p, 31 - b ≤ p → p ≤ 31 - b + 8 → W p = V p) : RC W b (qfl N) := by
  refine ⟨hC.1, ⟨fun j hj => ?_, row_of hC.2.1.2.1 (fun j _ => by rw [h1]) (fun j hj => ?_), row_of h2 (fun _ _ => rfl) (fun j hj => ?_), row_of h3 (fun _ _ => rfl) (fun j hj => ?_), row_of h4 (fun _ _ => rfl) (fun j hj => ?_), row_of h5 (fun _ _ => rfl) (fun j hj => ?_), row_of h29 (fun _ _ => rfl) (fun j hj => ?_), h30, LL_of2 hL (fun _ _ _ => rfl) (fun c hc => ?_)⟩, ⟨hb, fun q => absurd q (show ¬ (0 : Int) = 1 from by decide)⟩, RL_of hC.2.2.2 hl (fun k k1 k2 => ?_) (fun c c1 c2 => ?_)⟩
  · by_cases e : j = 7
    · rw [e, h07]; rfl
    · rw [h0 j hj e, hC.2.1.1 j hj]
      have : j = 0 ∨ j = 1 ∨ j = 2 ∨ j = 3 ∨ j = 4 ∨ j = 5 ∨ j = 6 ∨ j = 8 := by omega
      rcases this with rfl | rfl | rfl | rfl | rfl | rfl | rfl | rfl <;> rfl
  · show (qfl N).1 (9 + j) = N.1 (9 + j)
    exact (if_neg (by omega)).trans ((if_neg (by omega)).trans ((if_neg (by omega)).trans (if_neg (by omega))))
  · show (qfl N).1 (13 + j) = N.1 (124 + j)
    refine (if_neg (by omega)).trans ((if_neg (by omega)).trans ((if_pos (by omega)).trans ?_))
    rw [show 13 + j + 111 = 124 + j from by omega]
  · show (qfl N).1 (17 + j) = N.1 (128 + j)
    refine (if_neg (by omega)).trans ((if_neg (by omega)).trans ((if_pos (by omega)).trans ?_))
    rw [show 17 + j + 111 = 128 + j from by omega]
  · show (qfl N).1 (33 + j) = 0
    exact (if_neg (by omega)).trans ((if_neg (by omega)).trans ((if_neg (by omega)).trans (if_pos (by omega))))
  · show gmask (fun x => (qfl N).1 (43 + (4 * j + x))) = 0
    have z : ∀ x, x < 4 → (qfl N).1 (43 + (4 * j + x)) = 0 := fun x hx => (if_neg (by omega)).trans ((if_neg (by omega)).trans ((if_neg (by omega)).trans (if_pos (by omega))))
    unfold gmask
    dsimp only
    rw [z 0 (by omega), z 1 (by omega), z 2 (by omega), z 3 (by omega)]
    rfl
  · show (qfl N).1 (37 + j) = 0
    exact (if_neg (by omega)).trans ((if_neg (by omega)).trans ((if_neg (by omega)).trans (if_pos (by omega))))
  · show (if c < 24 then N.2.1 (54 + c) else if c < 28 then [] else if 30 ≤ c ∧ c < 54 then [] else N.2.1 c) = (if c < 24 then N.2.1 (54 + c) else if c < 28 then [] else N.2.1 c)
    rw [if_neg (show ¬ (30 ≤ c ∧ c < 54) from by omega)]
  · exact (if_neg (by omega)).trans ((if_neg (by omega)).trans ((if_neg (by omega)).trans (if_neg (by omega))))
  · exact (if_neg (by omega)).trans ((if_neg (by omega)).trans (if_neg (by omega)))
/-- what is wanted of a flow that recovers -/
def KR (P : qP) (M : qM) : Prop := LD M.2.1 ∧ (M.1 118 = 1 → 1 ≤ M.1 119) ∧ (M.1 118 = 0 ∨ M.1 118 = 1) ∧ (M.1 118 = 1 → M.1 123 = 0 ∨ M.1 123 = 1) ∧ (M.1 118 = 0 → (∀ j, j < 20 → M.1 (124 + j) = 0) ∧ ∀ c, c < 24 → M.2.1 (54 + c) = []) ∧ LD (qfail P M).2.1
theorem KR_I (hI : qI P M) : KR P M := ⟨LD_I hI, hI.1.2.2.2.2.2.2.2.2, hI.1.2.1.2.2.2.2.2.2.2.2.1, fun _ => hI.1.2.1.2.2.2.2.2.2.2.2.2.1, hI.1.2.2.2.2.2.2.2.1, LDI_fail hI⟩
theorem k_recover0 (h : KS σ f u P) (hR : KR P M) (hT : KT M) (hC : RC V b M) : ∃ W, fX1_recover (fput σ f V b u) f = some (fput σ f W b u) ∧ RC W b (qfail P M) := by
  have hS := h.1
  have hx := hC.1
  have hx2 := fx_other hx
  have fb := flen_k hx
  have fk := flen_k hx2.1
  have hbb : b = 11 ∨ b = 20 := hx
  obtain ⟨W1, e1, hW1, hD1⟩ := k_show h hC hR.1 hR.2.1 hT.2.2.2 hR.2.2.2.1
  have hf := hR.2.2.2.2.2
  have dN : (qshow P M).1 118 = 1 → 1 ≤ (qshow P M).1 119 := by rw [qshow_S (by omega), qshow_S (by omega)]; exact hR.2.1
  have fN : (qshow P M).1 118 = 0 ∨ (qshow P M).1 118 = 1 := by rw [qshow_S (by omega)]; exact hR.2.2.1
  have zN : (qshow P M).1 118 = 0 → (∀ j, j < 20 → (qshow P M).1 (124 + j) = 0) ∧ ∀ c, c < 24 → (qshow P M).2.1 (54 + c) = [] := fun q => by
    rw [qshow_S (by omega)] at q
    exact ⟨fun j hj => by rw [qshow_S (by omega)]; exact (hR.2.2.2.2.1 q).1 j hj, fun c hc => by rw [qshow_L (by omega) h.2.2.2]; exact (hR.2.2.2.2.1 q).2 c hc⟩
  have kn := KN_show (P := P) (M := M)
  rw [qfail_qfl] at hf ⊢
  generalize qshow P M = N at hW1 hD1 dN fN zN hf kn ⊢
  obtain ⟨W2, e2, hW2, fW2⟩ := k_clears (σ := σ) (f := f) (b := b) (u := u) hS ⟨hW1.2.1.2.2.2.2.2.2.2.2, hD1⟩
  obtain ⟨V3, hV3⟩ : ∃ V3, V3 = vs W2 b 0 (zi 0) := ⟨_, rfl⟩
  have f1 := c_fill (σ := σ) (f := f) (b := b) (u := u) (V := V3) (x := zi (-1)) 30 hS (by omega) (by decide)
  obtain ⟨V4, hV4⟩ : ∃ V4, V4 = vw V3 30 (fun j => if j < flen 30 then zi (-1) else V3 30 j) := ⟨_, rfl⟩
  rw [← hV4] at f1
  have f2 := c_fill (σ := σ) (f := f) (b := b) (u := u) (V := V4) (x := zi 0) 5 hS (by omega) (by decide)
  obtain ⟨V5, hV5⟩ : ∃ V5, V5 = vw V4 5 (fun j => if j < flen 5 then zi 0 else V4 5 j) := ⟨_, rfl⟩
  rw [← hV5] at f2
  have f3 := c_fill (σ := σ) (f := f) (b := b) (u := u) (V := V5) (x := zi 0) 29 hS (by omega) (by decide)
  obtain ⟨V6, hV6⟩ : ∃ V6, V6 = vw V5 29 (fun j => if j < flen 29 then zi 0 else V5 29 j) := ⟨_, rfl⟩
  rw [← hV6] at f3
  have f4 := c_fill (σ := σ) (f := f) (b := b) (u := u) (V := V6) (x := zi 0) 4 hS (by omega) (by decide)
  obtain ⟨V7, hV7⟩ : ∃ V7, V7 = vw V6 4 (fun j => if j < flen 4 then zi 0 else V6 4 j) := ⟨_, rfl⟩
  rw [← hV7] at f4
  have w7 : V7 0 7 = zi (N.1 7) := by
    rw [hV7, vw_ne (by omega), hV6, vw_ne (by omega), hV5, vw_ne (by omega), hV4, vw_ne (by omega), hV3, vs_no (by omega), fW2 0 (by omega)]
    exact hW1.2.1.1 7 (by omega)
  obtain ⟨V8, hV8⟩ : ∃ V8, V8 = vs V7 0 7 (zi (N.1 7 + 1)) := ⟨_, rfl⟩
  have w8 : ∀ p, p ≠ b → p ≠ 30 → p ≠ 5 → p ≠ 29 → p ≠ 4 → p ≠ 0 → V8 p = W2 p := fun p p1 p2 p3 p4 p5 p6 => by
    rw [hV8, vs_no p6, hV7, vw_ne p5, hV6, vw_ne p4, hV5, vw_ne p3, hV4, vw_ne p2, hV3, vs_no p1]
  have v8b : ∀ p, p ≠ b → p ≠ 30 → p ≠ 5 → p ≠ 29 → p ≠ 4 → p ≠ 0 → (p ≤ 7 ∨ 10 < p) → V8 p = W1 p := fun p p1 p2 p3 p4 p5 p6 p7 => (w8 p p1 p2 p3 p4 p5 p6).trans (fW2 p p7)
  have kN := KN_T kn hT
  have ex : fX0_exists (fput σ f V8 b u) (f + (31 - b)) = some (fput σ f V8 b u, zb (decide (N.1 118 = 1))) := by
    unfold fX0_exists
    have b119 := kN.2.2.2
    rw [cg_i hS hx2.1, Option.bind_some, v8b _ (by omega) (by omega) (by omega) (by omega) (by omega) (by omega) (by omega), hW1.2.2.2.1]
    by_cases e : N.1 118 = 1
    · have := dN e
      rw [if_pos e, decide_eq_true e, if_neg (by rw [zi_le (by omega) (by omega) (by omega) (by omega)]; omega), zrZ_1]; rfl
    · rw [if_neg e, decide_eq_false e, if_pos (by decide), zrZ_0]; rfl
  have d0 : LLD V8 6 (fun c => if c < 28 then [] else N.2.1 c) := LLD_congr hW2 (fun p p1 p2 => w8 p (by omega) (by omega) (by omega) (by omega) (by omega) (by omega)) (fun _ _ => rfl)
  have hcl : ∀ d, d < 30 → (if d < 24 then N.2.1 (54 + d) else (if d < 28 then [] else N.2.1 d)) = (qfl N).2.1 d := fun d hd => by
    show _ = (if d < 24 then N.2.1 (54 + d) else if d < 28 then [] else if 30 ≤ d ∧ d < 54 then [] else N.2.1 d)
    rw [if_neg (show ¬ (30 ≤ d ∧ d < 54) from by omega)]
  -- what stays to do gives the end
  have fin : ∀ W9 : Nat → Nat → Int32, row (W9 2) 4 (fun s => N.1 (124 + s)) → row (W9 3) 16 (fun k => N.1 (128 + k)) → LL W9 6 (fun c => if c < 24 then N.2.1 (54 + c) else if c < 28 then [] else N.2.1 c) → (∀ p, p ≠ 2 → p ≠ 3 → (p ≤ 6 ∨ 10 < p) → W9 p = V8 p) → RC W9 b (qfl N) := by
    intro W9 a2 a3 aL aF
    refine RC_fail hW1 ?_ (fun j hj j7 => ?_) ?_ ?_ a2 a3 (fun j hj => ?_) (fun j hj => ?_) (fun j hj => ?_) (fun j hj => ?_) aL (fun p p1 p2 => ?_)
    · rw [aF b (by omega) (by omega) (by omega), hV8, vs_no (by omega), hV7, vw_ne (by omega), hV6, vw_ne (by omega), hV5, vw_ne (by omega), hV4, vw_ne (by omega), hV3, vs_at]
    · rw [aF 0 (by omega) (by omega) (by omega), hV8, vs_ne (by omega), hV7, vw_ne (by omega), hV6, vw_ne (by omega), hV5, vw_ne (by omega), hV4, vw_ne (by omega), hV3, vs_no (by omega), fW2 0 (by omega)]
    · rw [aF 0 (by omega) (by omega) (by omega), hV8, vs_at]
    · rw [aF 1 (by omega) (by omega) (by omega), v8b 1 (by omega) (by omega) (by omega) (by omega) (by omega) (by omega) (by omega)]
    · rw [aF 4 (by omega) (by omega) (by omega), hV8, vs_no (by omega), hV7, vw_at, if_pos (show j < flen 4 from hj)]
    · rw [aF 5 (by omega) (by omega) (by omega), hV8, vs_no (by omega), hV7, vw_ne (by omega), hV6, vw_ne (by omega), hV5, vw_at, if_pos (show j < flen 5 from hj)]
    · rw [aF 29 (by omega) (by omega) (by omega), hV8, vs_no (by omega), hV7, vw_ne (by omega), hV6, vw_at, if_pos (show j < flen 29 from hj)]
    · rw [aF 30 (by omega) (by omega) (by omega), hV8, vs_no (by omega), hV7, vw_ne (by omega), hV6, vw_ne (by omega), hV5, vw_ne (by omega), hV4, vw_at, if_pos (show j < flen 30 from hj)]
    · rw [aF p (by omega) (by omega) (by omega), v8b p (by omega) (by omega) (by omega) (by omega) (by omega) (by omega) (by omega)]
  unfold fX1_recover
  rw [fc_1 hS, e1, Option.bind_some, e2, Option.bind_some, fr_15 hS, Option.bind_some, cp_i hS hx, Option.bind_some, ← hV3, fr_19 hS, Option.bind_some, f1, Option.bind_some, fr_13 hS, Option.bind_some, f2, Option.bind_some, fr_18 hS, Option.bind_some, f3, Option.bind_some, fr_12 hS, Option.bind_some, f4, Option.bind_some, fg_i hS, Option.bind_some, w7, zi_add, fp_i hS, Option.bind_some, ← hV8, fr_16 hS, Option.bind_some, fc_0 hS hx2.1, ex, Option.bind_some]
  dsimp only
  by_cases e : N.1 118 = 1
  · obtain ⟨c1, c2, c3, c4, c6, r2, r3, l⟩ := hW1.2.2.2.2 e
    obtain ⟨W9, e9, hW9, g2, g3, g9⟩ := k_goback (σ := σ) (f := f) (b := b) (u := u) (V := V8) (L := fun c => if c < 28 then [] else N.2.1 c) (K := gK N 54) hS hx d0 (LL_of2 l (fun p p1 p2 => v8b p (by omega) (by omega) (by omega) (by omega) (by omega) (by omega) (by omega)) (fun _ _ => rfl)) (fun c hc => if_pos (by omega)) (LD_congr hf (fun d hd => by
      rw [← hcl d hd]
      try dsimp only
      unfold gK
      by_cases e4 : d < 24
      · rw [if_pos e4, if_pos e4, if_pos e4]
      · rw [if_neg e4, if_neg e4]))
    refine ⟨W9, ?_, fin W9 (fun j hj => ?_) (fun j hj => ?_) (LL_of2 hW9.1 (fun _ _ _ => rfl) (fun d hd => ?_)) g9⟩
    · rw [decide_eq_true e, if_neg (show ¬ zb true = zi 0 from by decide), fc_1 hS, e9, Option.bind_some]
    · rw [g2 j hj, v8b _ (by omega) (by omega) (by omega) (by omega) (by omega) (by omega) (by omega)]; exact r2 j hj
    · rw [g3 j hj, v8b _ (by omega) (by omega) (by omega) (by omega) (by omega) (by omega) (by omega)]; exact r3 j hj
    · try dsimp only
      unfold gK
      by_cases e4 : d < 24
      · rw [if_pos e4, if_pos e4, if_pos e4]
      · rw [if_neg e4, if_neg e4]
  · have e0 : N.1 118 = 0 := by
      rcases fN with q | q
      · exact q
      · exact absurd q e
    obtain ⟨z1, z2⟩ := zN e0
    have g1 := c_fill (σ := σ) (f := f) (b := b) (u := u) (V := V8) (x := zi 0) 2 hS (by omega) (by decide)
    have g2 := c_fill (σ := σ) (f := f) (b := b) (u := u) (V := vw V8 2 (fun j => if j < flen 2 then zi 0 else V8 2 j)) (x := zi 0) 3 hS (by omega) (by decide)
    rw [decide_eq_false e, if_pos (show zb false = zi 0 from rfl), fr_10 hS, Option.bind_some, g1, Option.bind_some, fr_11 hS, Option.bind_some, g2, Option.bind_some]
    refine ⟨_, rfl, fin _ (fun j hj => ?_) (fun j hj => ?_) (LL_of2 d0.1 (fun p p1 p2 => ?_) (fun d hd => ?_)) (fun p p2 p3 _ => ?_)⟩
    · rw [vw_ne (by omega), vw_at, if_pos (show j < flen 2 from hj)]
      exact congrArg zi (z1 j (by omega)).symm
    · rw [vw_at, if_pos (show j < flen 3 from hj)]
      have := z1 (4 + j) (by omega)
      rw [show 124 + (4 + j) = 128 + j from by omega] at this
      exact congrArg zi this.symm
    · rw [vw_ne (by omega), vw_ne (by omega)]
    · try dsimp only
      by_cases e4 : d < 24
      · rw [if_pos e4, if_pos (by omega), z2 d e4]
      · rw [if_neg e4]
    · rw [vw_ne p3, vw_ne p2]
theorem k_recover (h : KS σ f u P) (hI : qI P M) (hT : KT M) (hC : RC V b M) : ∃ W, fX1_recover (fput σ f V b u) f = some (fput σ f W b u) ∧ RC W b (qfail P M) := k_recover0 h (KR_I hI) hT hC
end KRc
