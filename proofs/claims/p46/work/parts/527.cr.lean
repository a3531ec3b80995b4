/-! The class's flow goes back to what is done last. -/
section KB3
variable {σ : zS} {f b u : Nat} {V : Nat → Nat → Int32} {L K : Nat → List Nat}
theorem k_goback (h : fsh σ f) (hx : fx b) (hL : LLD V 6 L) (hK : LL V (31 - b + 4) K) (hLc : ∀ c, c < 24 → L c = []) (hD : LD (fun d => if d < 24 then K d else L d)) :
    ∃ W, fX1_goBackToLatest (fput σ f V b u) f = some (fput σ f W b u) ∧ LLD W 6 (fun d => if d < 24 then K d else L d) ∧ (∀ j, j < 4 → W 2 j = V (31 - b + 2) j) ∧ (∀ j, j < 16 → W 3 j = V (31 - b + 3) j) ∧ ∀ p, p ≠ 2 → p ≠ 3 → (p ≤ 6 ∨ 10 < p) → W p = V p := by
  have hx2 := fx_other hx
  have fk := flen_k hx2.1
  have e1 := c_copy1 (V := V) (b := b) (u := u) 2 (31 - b + 2) h (by omega) (by omega) (by decide) (by rw [fk.2.1]; rfl)
  obtain ⟨V1, hV1⟩ : ∃ V1, V1 = vw V 2 (fun j => if j < flen 2 then V (31 - b + 2) j else V 2 j) := ⟨_, rfl⟩
  rw [← hV1] at e1
  have e2 := c_copy1 (V := V1) (b := b) (u := u) 3 (31 - b + 3) h (by omega) (by omega) (by decide) (by rw [fk.2.2.1]; rfl)
  obtain ⟨V2, hV2⟩ : ∃ V2, V2 = vw V1 3 (fun j => if j < flen 3 then V1 (31 - b + 3) j else V1 3 j) := ⟨_, rfl⟩
  rw [← hV2] at e2
  have f2 : ∀ p, p ≠ 2 → p ≠ 3 → V2 p = V p := fun p p2 p3 => by rw [hV2, vw_ne p3, hV1, vw_ne p2]
  obtain ⟨W, eW, hW, fW⟩ := cfor (σ := σ) (f := f) (b := b) (u := u) (step := sX1_goBackToLatest_30 f) 0 24 (fun k W => LLD W 6 (fun d => if d < k then K d else L d) ∧ ∀ p, (p ≤ 6 ∨ 10 < p) → W p = V2 p)
    (fun k W _ hk hW => by
      have wK : LL W (31 - b + 4) K := LL_of2 hK (fun p p1 p2 => by rw [hW.2 p (by omega), f2 p (by omega) (by omega)]) (fun _ _ => rfl)
      have hs : LD (qu (fun d => if d < k then K d else L d) k (K k)) := by
        refine ⟨fun l hl => ?_, fun l m n hl hm h1 h2 => ?_⟩
        · by_cases e : l = k
          · rw [e, qu_at]
            have := hD.1 k (by omega)
            dsimp only at this
            rwa [if_pos (by omega)] at this
          · rw [qu_ne e]; exact hW.1.2.1 l hl
        · have sub : ∀ l, l < 30 → n ∈ qu (fun d => if d < k then K d else L d) k (K k) l → n ∈ (fun d => if d < 24 then K d else L d) l := fun l hl hn => by
            dsimp only
            by_cases e : l = k
            · rw [e, qu_at] at hn
              rw [e, if_pos (by omega)]; exact hn
            · rw [qu_ne e] at hn
              by_cases e3 : l < k
              · rw [if_pos e3] at hn
                rw [if_pos (by omega)]; exact hn
              · rw [if_neg e3] at hn
                by_cases e4 : l < 24
                · rw [hLc l e4] at hn
                  exact absurd hn List.not_mem_nil
                · rw [if_neg e4]; exact hn
          exact hD.2 l m n hl hm (sub l hl h1) (sub m hm h2)
      obtain ⟨W2, e3, hW2, fW2⟩ := k_back (c := k) (V := W) (u := u) h hx hW.1 wK hk (by rw [if_neg (by omega)]; exact hLc k hk) hs
      refine ⟨W2, ?_, ?_, fun p hp => ?_⟩
      · unfold sX1_goBackToLatest_30 sX1_goBackToLatest_30b
        dsimp only
        rw [if_neg (zi_nle (by omega) (by omega) (by omega)), fr_16 h, Option.bind_some, cr_10 h hx2.1, Option.bind_some, fc_3 h (fx_o hx2.1), c_firstOf h (fx_o hx2.1) wK (by omega), Option.bind_some]
        dsimp only
        rw [fr_16 h, Option.bind_some, cr_10 h hx2.1, Option.bind_some, fc_3 h (fx_o hx2.1), c_sizeOf h (fx_o hx2.1) wK (by omega), Option.bind_some]
        dsimp only
        rw [e3, Option.bind_some]
      · refine LLD_congr hW2 (fun _ _ _ => rfl) (fun d _ => ?_)
        by_cases e : d = k
        · rw [e, qu_at, if_pos (by omega)]
        · rw [qu_ne e]
          by_cases e4 : d < k
          · rw [if_pos e4, if_pos (by omega)]
          · rw [if_neg e4, if_neg (by omega)]
      · rw [fW2 p hp]; exact hW.2 p hp)
    (fun W _ => by
      unfold sX1_goBackToLatest_30 sX1_goBackToLatest_30b
      dsimp only
      rw [if_pos (by decide)])
    (by omega) (by omega) (V := V2) (x := 0) rfl ⟨LLD_congr hL (fun p p1 p2 => f2 p (by omega) (by omega)) (fun d _ => if_neg (by omega)), fun _ _ => rfl⟩
  refine ⟨W, ?_, hW, fun j hj => ?_, fun j hj => ?_, fun p p2 p3 hp => by rw [fW p hp, f2 p p2 p3]⟩
  · unfold fX1_goBackToLatest
    rw [fr_16 h, Option.bind_some, cr_8 h hx2.1, Option.bind_some, fr_10 h, Option.bind_some, e1, Option.bind_some, fr_16 h, Option.bind_some, cr_9 h hx2.1, Option.bind_some, fr_11 h, Option.bind_some, e2, Option.bind_some, eW, Option.bind_some]
  · rw [fW 2 (by omega), hV2, vw_ne (by omega), hV1, vw_at, if_pos (show j < flen 2 from hj)]
  · rw [fW 3 (by omega), hV2, vw_at, if_pos (show j < flen 3 from hj), hV1, vw_ne (by omega)]
end KB3
