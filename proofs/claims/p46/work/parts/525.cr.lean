/-! The class's flow recovers: its lists are cleared. -/
section KR
variable {σ : zS} {f b u : Nat} {V : Nat → Nat → Int32} {L : Nat → List Nat}
theorem k_clears (h : fsh σ f) (hL : LLD V 6 L) : ∃ W, zloop (sX1_recover_6 f) zfuel (fput σ f V b u, zi 0) = some (fput σ f W b u) ∧ LLD W 6 (fun c => if c < 28 then [] else L c) ∧ ∀ p, (p ≤ 7 ∨ 10 < p) → W p = V p := by
  obtain ⟨W, e, hW⟩ := cfor (σ := σ) (f := f) (b := b) (u := u) (step := sX1_recover_6 f) 0 28 (fun k W => LLD W 6 (fun c => if c < k then [] else L c) ∧ ∀ p, (p ≤ 7 ∨ 10 < p) → W p = V p)
    (fun k W _ hk hW => by
      obtain ⟨W2, e2, hW2, fW2⟩ := d_clear (σ := σ) (f := f) (b := b) (u := u) (V := W) (l := k) h (Or.inl rfl) hW.1 (by omega)
      refine ⟨W2, ?_, ?_, fun p hp => ?_⟩
      · unfold sX1_recover_6 sX1_recover_6b
        dsimp only
        rw [if_neg (zi_nle (by omega) (by omega) (by omega)), fr_14 h, Option.bind_some, fc_3 h (Or.inl rfl), e2, Option.bind_some]
      · refine LLD_congr hW2 (fun _ _ _ => rfl) (fun c _ => ?_)
        by_cases e3 : c = k
        · rw [e3, qu_at, if_pos (by omega)]
        · rw [qu_ne e3]
          by_cases e4 : c < k
          · rw [if_pos e4, if_pos (by omega)]
          · rw [if_neg e4, if_neg (by omega)]
      · rw [fW2 p (by omega)]; exact hW.2 p hp)
    (fun W _ => by
      unfold sX1_recover_6 sX1_recover_6b
      dsimp only
      rw [if_pos (by decide)])
    (by omega) (by omega) (V := V) (x := 0) rfl ⟨LLD_congr hL (fun _ _ _ => rfl) (fun c _ => if_neg (by omega)), fun _ _ => rfl⟩
  exact ⟨W, e, hW⟩
end KR
