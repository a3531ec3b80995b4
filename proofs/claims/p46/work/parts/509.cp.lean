/-! The class's flow puts barriers and sends records. -/
def KT (M : qM) : Prop := 0 ≤ M.1 0 ∧ M.1 0 < 1000000000 ∧ M.1 5 < 1000000000 ∧ M.1 119 < 1000000000
theorem fresh_of {L : Nat → List Nat} {l r : Nat} (h : LD (qu L l (L l ++ [r]))) (hl : l < 30) : ∀ k, k < 30 → r ∉ L k := by
  intro k hk hr
  have hin : r ∈ qu L l (L l ++ [r]) l := by rw [qu_at]; exact List.mem_append_right _ (List.mem_singleton.mpr rfl)
  by_cases e : k = l
  · have := h.1 l hl
    rw [qu_at, List.nodup_append] at this
    rw [e] at hr
    exact this.2.2 r hr r (List.mem_singleton.mpr rfl) rfl
  · exact e (h.2 k l r hk hl (by rw [qu_ne e]; exact hr) hin)
theorem RC_own {V W : Nat → Nat → Int32} {b : Nat} {M N : qM} (hC : RC V b M) (hF : RF W N) (hw : ∀ p, 11 ≤ p → p ≤ 28 → W p = V p) (hn : ∀ k, (k = 5 ∨ 67 ≤ k ∧ k < 144) → N.1 k = M.1 k) (hl : ∀ c, 30 ≤ c → c < 78 → N.2.1 c = M.2.1 c) : RC W b N := by
  have fb := flen_k hC.1
  have fk := flen_k (fx_other hC.1).1
  exact ⟨hC.1, hF, RP_of hC.2.2.1 (fun p q1 q2 => hw p (by omega) (by omega)) (fun k hk => hn k (by omega)) (fun c c1 c2 => hl c (by omega) (by omega)), RL_of hC.2.2.2 (fun p q1 q2 => hw p (by omega) (by omega)) (fun k k1 k2 => hn k (by omega)) (fun c c1 c2 => hl c (by omega) (by omega))⟩
section KP
variable {σ : zS} {f b u : Nat} {V : Nat → Nat → Int32} {M : qM} {P : qP}
theorem kx_exists (h : KS σ f u P) (hI : qI P M) (hT : KT M) (hC : RC V b M) : fX0_exists (fput σ f V b u) (f + b) = some (fput σ f V b u, zb (decide (M.1 67 = 1))) :=
  k_exists h.1 hC (by by_cases e : M.1 67 = 1; exact Or.inl (hI.1.2.2.2.2.2.1 e).1.2.2.2.2.2.1; exact Or.inr e) hT.2.2.1
theorem kx_overt (h : KS σ f u P) (hI : qI P M) (hT : KT M) (hC : RC V b M) : fX0_isOvertaking (fput σ f V b u) (f + b) = some (fput σ f V b u, zb (qovert M)) :=
  k_overt h.1 hC (by by_cases e : M.1 67 = 1; exact Or.inl (hI.1.2.2.2.2.2.1 e).1.2.2.2.2.2.1; exact Or.inr e) hT.2.2.1 (fun e => (hI.1.2.2.2.2.2.1 e).1.1)
/-- what the first k channels of a source hold before its barriers -/
def qbar (s k : Nat) (M : qM) (c : Nat) : Int := if c % 4 = s ∧ c / 4 < k then ((M.2.1 c).length : Int) else M.2.2 c
theorem k_put {s : Nat} (h : KS σ f u P) (hI : qI P M) (hT : KT M) (hC : RC V b M) (hs : s < P.1) : ∃ W, fX1_putBarriers (fput σ f V b u) f (zi s) = some (fput σ f W b u) ∧ RC W b (qput s M) := by
  have hS := h.1
  have hx := hC.1
  have fb := flen_k hx
  have hP := h.2.2.2
  have hs4 : s < 4 := by have := hP.2.1; omega
  have hN := hI.1.2.1
  have hlag := hN.2.2.2.2.1 s hs4
  unfold fX1_putBarriers
  rw [fr_15 hS, Option.bind_some, fc_0 hS hx, kx_exists h hI hT hC, Option.bind_some]
  dsimp only
  by_cases e : M.1 67 = 1
  · obtain ⟨o69, o70, o74, o144, o98, o5, o68, -⟩ := (hI.1.2.2.2.2.2.1 e).1
    have hfl : gflags (fun s => M.1 (70 + s)) := fun s hs => o70 s hs
    rw [decide_eq_true e, if_neg (show ¬ zb true = zi 0 from by decide), fr_15 hS, Option.bind_some, fc_0 hS hx, k_hasPut hS hC e hfl hs4, Option.bind_some]
    dsimp only
    rcases o70 s hs4 with e2 | e2
    · rw [e2, decide_eq_false (show ¬ (0 : Int) = 1 from by decide), if_pos (show zb false = zi 0 from rfl), fg_i hS, Option.bind_some, fr_15 hS, Option.bind_some, cg_i hS hx, Option.bind_some, fr_9 hS, Option.bind_some, fa_rd 1 s hS (by omega) rfl (by show s < 4; exact hs4), Option.bind_some, hC.2.1.2.1 s hs4, hC.2.1.1 4 (by omega), (hC.2.2.1.2 e).1, show gF M 4 = M.1 0 from rfl, zi_sub]
      dsimp only
      have hT1 := hT.1
      have hT2 := hT.2.1
      by_cases e3 : M.1 (9 + s) ≤ M.1 0 - M.1 68
      · rw [if_pos (by rw [zi_le (by omega) (by omega) (by omega) (by omega)]; exact e3), Option.bind_some, cg_i hS hx, Option.bind_some, (hC.2.2.1.2 e).2.2.2.1, m_or hfl hs4, cp_i hS hx, Option.bind_some, fr_15 hS, Option.bind_some, cr_8 hS hx, Option.bind_some, fr_10 hS, Option.bind_some, fa_rd 2 s hS (by omega) rfl (by show s < 4; exact hs4), Option.bind_some, fa_wr (b + 2) s hS (by omega) rfl (by rw [fb.2.1]; exact hs4), Option.bind_some]
        rw [vs_ne (by omega), hC.2.1.2.2.1 s hs4]
        dsimp only
        have hm := hN.1
        have hmq : M.1 1 = (qmany M : Int) := by unfold qmany; omega
        obtain ⟨W, eW, hW, fW⟩ := cfor (σ := σ) (f := f) (b := b) (u := u) (step := sX1_putBarriers_75 f (zi s)) 0 (qmany M) (fun k W => row (W 30) 24 (qbar s k M) ∧ ∀ p, p ≠ 30 → W p = vs (vs V b 5 (zi (gmask (qu (fun s => M.1 (70 + s)) s 1)))) (b + 2) s (zi (M.1 (13 + s))) p)
          (fun k W _ hk hW => by
            have w0 : W 0 0 = zi (M.1 1) := by rw [hW.2 0 (by omega), vs_no (by omega), vs_no (by omega)]; exact hC.2.1.1 0 (by omega)
            have wl : LL W 6 M.2.1 := LL_of2 hC.2.1.2.2.2.2.2.2.2.2 (fun p p1 p2 => by rw [hW.2 p (by omega), vs_no (by omega), vs_no (by omega)]) (fun _ _ => rfl)
            refine ⟨vs W 30 (4 * k + s) (zi ((M.2.1 (4 * k + s)).length : Int)), ?_, fun c hc => ?_, fun p hp => ?_⟩
            · unfold sX1_putBarriers_75 sX1_putBarriers_75b
              dsimp only
              rw [fg_i hS, Option.bind_some, w0, if_neg (by rw [zi_le (by omega) (by omega) (by omega) (by omega)]; omega), c_channel, Option.bind_some, fr_19 hS, Option.bind_some, fr_14 hS, Option.bind_some, fc_3 hS (Or.inl rfl)]
              dsimp only
              rw [c_sizeOf hS (Or.inl rfl) wl (by omega), Option.bind_some]
              dsimp only
              rw [fa_wr 30 (4 * k + s) hS (by omega) rfl (by show 4 * k + s < 24; omega), Option.bind_some]
            · unfold qbar
              by_cases e4 : c = 4 * k + s
              · rw [e4, vs_at, if_pos (by omega)]
              · rw [vs_ne (by omega), hW.1 c hc]
                unfold qbar
                by_cases e5 : c % 4 = s ∧ c / 4 < k
                · rw [if_pos e5, if_pos (by omega)]
                · rw [if_neg e5, if_neg (by omega)]
            · rw [vs_no hp]; exact hW.2 p hp)
          (fun W hW => by
            have w0 : W 0 0 = zi (M.1 1) := by rw [hW.2 0 (by omega), vs_no (by omega), vs_no (by omega)]; exact hC.2.1.1 0 (by omega)
            unfold sX1_putBarriers_75 sX1_putBarriers_75b
            dsimp only
            rw [fg_i hS, Option.bind_some, w0, if_pos (by rw [zi_le (by omega) (by omega) (by omega) (by omega)]; omega)])
          (by omega) (by have := hm; unfold qmany; omega) (V := vs (vs V b 5 (zi (gmask (qu (fun s => M.1 (70 + s)) s 1)))) (b + 2) s (zi (M.1 (13 + s)))) (x := 0) rfl ⟨fun c hc => by
            unfold qbar
            rw [vs_no (by omega), vs_no (by omega), if_neg (by omega)]
            exact hC.2.1.2.2.2.2.2.2.2.1 c hc, fun _ _ => rfl⟩
        have hq : qput s M = (qu (qu M.1 (70 + s) 1) (98 + s) (M.1 (13 + s)), M.2.1, qbar s (qmany M) M) := by
          unfold qput
          rw [if_pos ⟨e, e2, e3⟩]
          rfl
        rw [eW, Option.bind_some, hq]
        refine ⟨W, rfl, hx, ?_, ?_, ?_⟩
        · obtain ⟨a0, a1, a2, a3, a4, a5, a6, a7, a8⟩ := hC.2.1
          have wp : ∀ p, p ≠ b → p ≠ b + 2 → p ≠ 30 → W p = V p := fun p p1 p2 p3 => by rw [fW p p3, vs_no p2, vs_no p1]
          have n1 : ∀ k, k < 70 → qu (qu M.1 (70 + s) 1) (98 + s) (M.1 (13 + s)) k = M.1 k := fun k hk => by rw [qu_ne (by omega), qu_ne (by omega)]
          exact ⟨row_of a0 (fun j _ => by rw [wp 0 (by omega) (by omega) (by omega)]) (fun j hj => gF_of (fun k hk => n1 k (by omega)) hj), row_of a1 (fun j _ => by rw [wp 1 (by omega) (by omega) (by omega)]) (fun j hj => n1 _ (by omega)), row_of a2 (fun j _ => by rw [wp 2 (by omega) (by omega) (by omega)]) (fun j hj => n1 _ (by omega)), row_of a3 (fun j _ => by rw [wp 3 (by omega) (by omega) (by omega)]) (fun j hj => n1 _ (by omega)), row_of a4 (fun j _ => by rw [wp 4 (by omega) (by omega) (by omega)]) (fun j hj => n1 _ (by omega)),
            row_of a5 (fun j _ => by rw [wp 5 (by omega) (by omega) (by omega)]) (fun j hj => gmask_of fun x hx => n1 _ (by omega)), row_of a6 (fun j _ => by rw [wp 29 (by omega) (by omega) (by omega)]) (fun j hj => n1 _ (by omega)), hW, LL_of2 a8 (fun p p1 p2 => wp p (by omega) (by omega) (by omega)) (fun _ _ => rfl)⟩
        · obtain ⟨a0, a1⟩ := hC.2.2.1
          obtain ⟨c1, c3, c4, c5, c6, r1, r2, r3, l⟩ := a1 e
          have w0 : ∀ j, j ≠ 5 → W b j = V b j := fun j hj => by rw [fW b (by omega), vs_no (by omega), vs_ne (by omega)]
          have wp : ∀ p, b < p → p ≠ b + 2 → p ≤ b + 8 → W p = V p := fun p p1 p2 p3 => by rw [fW p (by omega), vs_no (by omega), vs_no (by omega)]
          have n1 : ∀ k, k ≠ 70 + s → k ≠ 98 + s → qu (qu M.1 (70 + s) 1) (98 + s) (M.1 (13 + s)) k = M.1 k := fun k k1 k2 => by rw [qu_ne k2, qu_ne k1]
          refine ⟨?_, fun _ => ⟨?_, ?_, ?_, ?_, ?_, row_of r1 (fun j _ => by rw [wp (b + 1) (by omega) (by omega) (by omega)]) (fun j hj => gmask_of fun x hx => n1 _ (by omega) (by omega)), fun j hj => ?_, row_of r3 (fun j _ => by rw [wp (b + 3) (by omega) (by omega) (by omega)]) (fun j hj => n1 _ (by omega) (by omega)), LL_of2 l (fun p p1 p2 => wp p (by omega) (by omega) (by omega)) (fun _ _ => rfl)⟩⟩
          · rw [w0 0 (by omega), a0]
            show zi (if M.1 67 = 1 then M.1 5 else 0) = zi (if qu (qu M.1 (70 + s) 1) (98 + s) (M.1 (13 + s)) 67 = 1 then qu (qu M.1 (70 + s) 1) (98 + s) (M.1 (13 + s)) 5 else 0)
            rw [n1 67 (by omega) (by omega), n1 5 (by omega) (by omega)]
          · rw [w0 1 (by omega), c1]; exact congrArg zi (n1 68 (by omega) (by omega)).symm
          · rw [w0 3 (by omega), c3]; exact congrArg zi (n1 69 (by omega) (by omega)).symm
          · rw [w0 4 (by omega), c4]
          · rw [fW b (by omega), vs_no (by omega), vs_at]
            refine congrArg zi (gmask_of fun x hx => ?_)
            show qu (fun s => M.1 (70 + s)) s 1 x = qu (qu M.1 (70 + s) 1) (98 + s) (M.1 (13 + s)) (70 + x)
            by_cases e6 : x = s
            · rw [e6, qu_at, qu_ne (by omega), qu_at]
            · rw [qu_ne e6, qu_ne (by omega), qu_ne (by omega)]
          · rw [w0 6 (by omega), c6]; rfl
          · rw [fW (b + 2) (by omega)]
            show _ = zi (qu (qu M.1 (70 + s) 1) (98 + s) (M.1 (13 + s)) (98 + j))
            by_cases e6 : j = s
            · rw [e6, vs_at, qu_at]
            · rw [vs_ne (by omega), vs_no (by omega), qu_ne (by omega), qu_ne (by omega)]; exact r2 j hj
        · have fk := flen_k (fx_other hx).1
          refine RL_of hC.2.2.2 (fun p p1 p2 => ?_) (fun k k1 k2 => ?_) (fun c c1 c2 => rfl)
          · have hp := fx_far (fx_other hx).1 p1 p2
            rw [fW p (by omega), vs_no (by omega), vs_no (by omega)]
          · show qu (qu M.1 (70 + s) 1) (98 + s) (M.1 (13 + s)) k = M.1 k
            rw [qu_ne (by omega), qu_ne (by omega)]
      · rw [if_neg (by rw [zi_le (by omega) (by omega) (by omega) (by omega)]; exact e3)]
        have hq : qput s M = M := if_neg (fun q => e3 q.2.2)
        rw [hq]
        exact ⟨V, rfl, hC⟩
    · rw [e2, decide_eq_true rfl, if_neg (show ¬ zb true = zi 0 from by decide)]
      have hq : qput s M = M := if_neg (fun q => by omega)
      rw [hq]
      exact ⟨V, rfl, hC⟩
  · rw [decide_eq_false e, if_pos (show zb false = zi 0 from rfl)]
    have hq : qput s M = M := if_neg (fun q => e q.1)
    rw [hq]
    exact ⟨V, rfl, hC⟩
end KP
