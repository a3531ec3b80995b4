/-! The class's receiver cuts. -/
section KU
variable {σ : zS} {f b u : Nat} {V : Nat → Nat → Int32} {M : qM} {P : qP}
theorem k_senders {r : Nat} (h : KS σ f u P) (hC : RC V b M) (hm : 1 ≤ M.1 1 ∧ M.1 1 ≤ 4) (hr : r < 6) : fX1_sendersTo (fput σ f V b u) f (zi r) = some (fput σ f V b u, zi (qns P M r)) := by
  have hmq : M.1 1 = (qmany M : Int) := by unfold qmany; omega
  unfold fX1_sendersTo qns
  by_cases e : r < 4
  · rw [if_neg (zi_nle (by omega) (by omega) (by omega)), if_pos e, fr_17 h.1, Option.bind_some, su_i (KS_su h), Option.bind_some, (KS_su h).2.1]
  · rw [if_pos (by rw [zi_le (by omega) (by omega) (by omega) (by omega)]; omega), if_neg e, fg_i h.1, Option.bind_some, hC.2.1.1 0 (by omega), show gF M 0 = (qmany M : Int) from hmq]
/-- what a worker notes of its sums: the first k keys -/
def qnote (r k : Nat) (M : qM) (j : Nat) : Int := if j < k ∧ qown j (qmany M) = r then M.1 (17 + j) else M.1 (102 + j)
/-- the barriers that a worker puts before its results: the first k sinks -/
def qbars (r k : Nat) (M : qM) (c : Nat) : Int := if 16 ≤ c ∧ c < 16 + 4 * k ∧ c % 4 = r then ((M.2.1 c).length : Int) else M.2.2 c
theorem k_cut {r : Nat} (h : KS σ f u P) (hC : RC V b M) (hD : LD M.2.1) (hm : 1 ≤ M.1 1 ∧ M.1 1 ≤ 4) (e67 : M.1 67 = 1) (hr : r < 6) : ∃ W, fX1_cut (fput σ f V b u) f (zi r) = some (fput σ f W b u) ∧ RC W b (qcut P r M) ∧ LD (qcut P r M).2.1 := by
  have hS := h.1
  have hx := hC.1
  have fb := flen_k hx
  have fk := flen_k (fx_other hx).1
  have hP := h.2.2.2
  have h1P := hP.2.2.1
  have h2P := hP.2.2.2.1
  have hmq : M.1 1 = (qmany M : Int) := by unfold qmany; omega
  obtain ⟨a0, a1, a2, a3, a4, a5, a6, a7, a8⟩ := hC.2.1
  unfold fX1_cut
  by_cases e : r < 4
  · rw [if_pos (by rw [zi_lt (by omega) (by omega) (by omega) (by omega)]; omega)]
    obtain ⟨W1, eW1, hW1, fW1⟩ := cfor (σ := σ) (f := f) (b := b) (u := u) (step := sX1_cut_27 f (zi r)) 0 16 (fun k W => row (W (b + 3)) 16 (qnote r k M) ∧ ∀ p, p ≠ b + 3 → W p = V p)
      (fun k W _ hk hW => by
        have w0 : W 0 0 = zi (M.1 1) := by rw [hW.2 0 (by omega)]; exact a0 0 (by omega)
        have w3 : W 3 k = zi (M.1 (17 + k)) := by rw [hW.2 3 (by omega)]; exact a3 k hk
        unfold sX1_cut_27 sX1_cut_27b
        dsimp only
        rw [if_neg (zi_nle (by omega) (by omega) (by omega)), fg_i hS, Option.bind_some, w0, hmq, c_owner (by omega) (by omega), Option.bind_some]
        dsimp only
        have ho := qown_lt (k := k) (m := qmany M) (by omega)
        by_cases e2 : qown k (qmany M) = r
        · rw [if_pos (by rw [e2]), fr_15 hS, Option.bind_some, cr_9 hS hx, Option.bind_some, fr_11 hS, Option.bind_some, fa_rd 3 k hS (by omega) rfl (by show k < 16; exact hk), Option.bind_some, w3, fa_wr (b + 3) k hS (by omega) rfl (by rw [fb.2.2.1]; exact hk), Option.bind_some]
          refine ⟨_, rfl, fun j hj => ?_, fun p hp => ?_⟩
          · unfold qnote
            by_cases e3 : j = k
            · rw [e3, vs_at, if_pos ⟨by omega, e2⟩]
            · rw [vs_ne (by omega), hW.1 j hj]
              unfold qnote
              by_cases e4 : j < k ∧ qown j (qmany M) = r
              · rw [if_pos e4, if_pos ⟨by omega, e4.2⟩]
              · rw [if_neg e4, if_neg (fun q => e4 ⟨by omega, q.2⟩)]
          · rw [vs_no hp]; exact hW.2 p hp
        · rw [if_neg (by rw [zi_eq (by omega) (by omega) (by omega) (by omega)]; omega)]
          refine ⟨W, rfl, fun j hj => ?_, hW.2⟩
          rw [hW.1 j hj]
          unfold qnote
          by_cases e4 : j < k ∧ qown j (qmany M) = r
          · rw [if_pos e4, if_pos ⟨by omega, e4.2⟩]
          · rw [if_neg e4, if_neg (fun q => e4 ⟨by
              have : j ≠ k := fun q2 => e2 (by rw [← q2]; exact q.2)
              omega, q.2⟩)])
      (fun W hW => by
        unfold sX1_cut_27 sX1_cut_27b
        dsimp only
        rw [if_pos (by decide)])
      (by omega) (by omega) (V := V) (x := 0) rfl ⟨fun j hj => by
        unfold qnote
        rw [if_neg (by omega)]
        exact (hC.2.2.1.2 e67).2.2.2.2.2.2.2.1 j hj, fun _ _ => rfl⟩
    obtain ⟨W, eW, hW, fW⟩ := cfor (σ := σ) (f := f) (b := b) (u := u) (step := sX1_cut_68 f (zi r)) 0 P.2.1 (fun k W => row (W 30) 24 (qbars r k M) ∧ ∀ p, p ≠ 30 → W p = W1 p)
      (fun k W _ hk hW => by
        have wl : LL W 6 M.2.1 := LL_of2 a8 (fun p p1 p2 => by rw [hW.2 p (by omega), fW1 p (by omega)]) (fun _ _ => rfl)
        refine ⟨vs W 30 (4 * (4 + k) + r) (zi ((M.2.1 (4 * (4 + k) + r)).length : Int)), ?_, fun c hc => ?_, fun p hp => ?_⟩
        · unfold sX1_cut_68 sX1_cut_68b
          dsimp only
          rw [fr_17 hS, Option.bind_some, su_i (KS_su h), Option.bind_some, (KS_su h).2.2.1, if_neg (zi_nle (by omega) (by omega) (by omega)), zi_add, show (4 : Int) + (k : Int) = ((4 + k : Nat) : Int) from by omega, c_channel, Option.bind_some]
          dsimp only
          rw [fr_19 hS, Option.bind_some, fr_14 hS, Option.bind_some, fc_3 hS (Or.inl rfl), c_sizeOf hS (Or.inl rfl) wl (by omega), Option.bind_some]
          dsimp only
          rw [fa_wr 30 (4 * (4 + k) + r) hS (by omega) rfl (by show 4 * (4 + k) + r < 24; omega), Option.bind_some]
        · unfold qbars
          by_cases e4 : c = 4 * (4 + k) + r
          · rw [e4, vs_at, if_pos (by omega)]
          · rw [vs_ne (by omega), hW.1 c hc]
            unfold qbars
            by_cases e5 : 16 ≤ c ∧ c < 16 + 4 * k ∧ c % 4 = r
            · rw [if_pos e5, if_pos (by omega)]
            · rw [if_neg e5, if_neg (by omega)]
        · rw [vs_no hp]; exact hW.2 p hp)
      (fun W hW => by
        unfold sX1_cut_68 sX1_cut_68b
        dsimp only
        rw [fr_17 hS, Option.bind_some, su_i (KS_su h), Option.bind_some, (KS_su h).2.2.1, if_pos (by rw [zi_le (by omega) (by omega) (by omega) (by omega)]; omega)])
      (by omega) (by omega) (V := W1) (x := 0) rfl ⟨fun c hc => by
        unfold qbars
        rw [fW1 30 (by omega), if_neg (by omega)]
        exact a7 c hc, fun _ _ => rfl⟩
    rw [eW1, Option.bind_some, eW, Option.bind_some]
    have wp : ∀ p, p ≠ b + 3 → p ≠ 30 → W p = V p := fun p p1 p2 => by rw [fW p p2, fW1 p p1]
    have hq : qcut P r M = ((fun k => if 102 ≤ k ∧ k < 118 ∧ qown (k - 102) (qmany M) = r then M.1 (k - 85) else if k = 144 + r then 1 else M.1 k), M.2.1, qbars r P.2.1 M) := by
      unfold qcut
      rw [if_pos e]
      rfl
    have n1 : ∀ k, (k < 102 ∨ 118 ≤ k ∧ k < 144) → (qcut P r M).1 k = M.1 k := fun k hk => by
      rw [hq]
      dsimp only
      rw [if_neg (by omega), if_neg (by omega)]
    have nl : (qcut P r M).2.1 = M.2.1 := by rw [hq]
    refine ⟨W, rfl, ⟨hx, ?_, ?_, ?_⟩, by rw [nl]; exact hD⟩
    · exact ⟨row_of a0 (fun j _ => by rw [wp 0 (by omega) (by omega)]) (fun j hj => gF_of (fun k hk => n1 k (by omega)) hj), row_of a1 (fun j _ => by rw [wp 1 (by omega) (by omega)]) (fun j hj => n1 _ (by omega)), row_of a2 (fun j _ => by rw [wp 2 (by omega) (by omega)]) (fun j hj => n1 _ (by omega)), row_of a3 (fun j _ => by rw [wp 3 (by omega) (by omega)]) (fun j hj => n1 _ (by omega)), row_of a4 (fun j _ => by rw [wp 4 (by omega) (by omega)]) (fun j hj => n1 _ (by omega)),
        row_of a5 (fun j _ => by rw [wp 5 (by omega) (by omega)]) (fun j hj => gmask_of fun x hx => n1 _ (by omega)), row_of a6 (fun j _ => by rw [wp 29 (by omega) (by omega)]) (fun j hj => n1 _ (by omega)), by rw [hq]; exact hW, LL_of2 a8 (fun p p1 p2 => wp p (by omega) (by omega)) (fun _ _ => by rw [nl])⟩
    · obtain ⟨c0, c1⟩ := hC.2.2.1
      obtain ⟨d1, d3, d4, d5, d6, r1, r2, r3, l⟩ := c1 e67
      refine ⟨by rw [wp b (by omega) (by omega), n1 67 (by omega), n1 5 (by omega)]; exact c0, fun _ => ⟨?_, ?_, ?_, ?_, ?_, row_of r1 (fun j _ => by rw [wp (b + 1) (by omega) (by omega)]) (fun j hj => gmask_of fun x hx => n1 _ (by omega)), row_of r2 (fun j _ => by rw [wp (b + 2) (by omega) (by omega)]) (fun j hj => n1 _ (by omega)), fun j hj => ?_, LL_of2 l (fun p p1 p2 => wp p (by omega) (by omega)) (fun _ _ => ?_)⟩⟩
      · rw [wp b (by omega) (by omega), n1 68 (by omega)]; exact d1
      · rw [wp b (by omega) (by omega), n1 69 (by omega)]; exact d3
      · rw [wp b (by omega) (by omega)]; exact d4
      · rw [wp b (by omega) (by omega), d5]; exact congrArg zi (gmask_of fun x hx => (n1 _ (by omega)).symm)
      · rw [wp b (by omega) (by omega), d6, gtot_of (M := M) (N := qcut P r M) (fun c _ _ => by rw [nl])]
      · rw [fW (b + 3) (by omega), hW1 j hj, hq]
        refine congrArg zi ?_
        unfold qnote
        dsimp only
        by_cases e4 : qown j (qmany M) = r
        · rw [if_pos ⟨hj, e4⟩, if_pos ⟨by omega, by omega, by rw [show 102 + j - 102 = j from by omega]; exact e4⟩, show 102 + j - 85 = 17 + j from by omega]
        · rw [if_neg (fun q => e4 q.2), if_neg (fun q => e4 (by have := q.2.2; rw [show 102 + j - 102 = j from by omega] at this; exact this)), if_neg (by omega)]
      · rw [gK_of (M := M) (N := qcut P r M) (fun c _ _ => by rw [nl])]
    · refine RL_of hC.2.2.2 (fun p p1 p2 => ?_) (fun k k1 k2 => n1 k (by omega)) (fun c c1 c2 => by rw [nl])
      have hp := fx_far (fx_other hx).1 p1 p2
      exact wp p (by omega) (by omega)
  · rw [if_neg (by rw [zi_lt (by omega) (by omega) (by omega) (by omega)]; omega), fr_14 hS, Option.bind_some, fc_3 hS (Or.inl rfl), zi_sub, zi_add, zi_add, show (24 : Int) + ((r : Int) - 4) = ((20 + r : Nat) : Int) from by omega, show (26 : Int) + ((r : Int) - 4) = ((22 + r : Nat) : Int) from by omega]
    obtain ⟨W, eW, hW, fW⟩ := d_moves (σ := σ) (f := f) (b := b) (u := u) (V := V) (l := 20 + r) (m := 22 + r) hS (Or.inl rfl) ⟨a8, hD⟩ (by omega) (by omega) (by omega)
    have hq : qcut P r M = (qu M.1 (144 + r) 1, qu (qu M.2.1 (22 + r) (M.2.1 (22 + r) ++ M.2.1 (20 + r))) (20 + r) [], M.2.2) := by
      unfold qcut
      rw [if_neg e]
    rw [eW, Option.bind_some, hq]
    have n1 : ∀ k, k < 144 → qu M.1 (144 + r) 1 k = M.1 k := fun k hk => qu_ne (by omega)
    refine ⟨W, rfl, RC_own hC ?_ (fun p p1 p2 => fW p (by omega)) (fun k hk => n1 k (by omega)) (fun c c1 c2 => ?_), hW.2⟩
    · exact ⟨row_of a0 (fun j _ => by rw [fW 0 (by omega)]) (fun j hj => gF_of (fun k hk => n1 k (by omega)) hj), row_of a1 (fun j _ => by rw [fW 1 (by omega)]) (fun j hj => n1 _ (by omega)), row_of a2 (fun j _ => by rw [fW 2 (by omega)]) (fun j hj => n1 _ (by omega)), row_of a3 (fun j _ => by rw [fW 3 (by omega)]) (fun j hj => n1 _ (by omega)), row_of a4 (fun j _ => by rw [fW 4 (by omega)]) (fun j hj => n1 _ (by omega)),
        row_of a5 (fun j _ => by rw [fW 5 (by omega)]) (fun j hj => gmask_of fun x hx => n1 _ (by omega)), row_of a6 (fun j _ => by rw [fW 29 (by omega)]) (fun j hj => n1 _ (by omega)), row_of a7 (fun j _ => by rw [fW 30 (by omega)]) (fun j hj => rfl), hW.1⟩
    · show qu (qu M.2.1 (22 + r) _) (20 + r) [] c = M.2.1 c
      rw [qu_ne (by omega), qu_ne (by omega)]
end KU
