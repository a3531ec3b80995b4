/-! The class's flow recovers: what was kept goes back into a channel. -/
section KB2
variable {σ : zS} {f b u : Nat} {V : Nat → Nat → Int32} {L K : Nat → List Nat}
theorem k_back {c : Nat} (h : fsh σ f) (hx : fx b) (hL : LLD V 6 L) (hK : LL V (31 - b + 4) K) (hc : c < 24) (hLc : L c = []) (hD : LD (qu L c (K c))) :
    ∃ W, zloop (sX1_goBackToLatest_60 f (zi c)) zfuel (fput σ f V b u, zi (lhd (K c)), zi ((K c).length : Int)) = some (fput σ f W b u) ∧ LLD W 6 (qu L c (K c)) ∧ ∀ p, (p ≤ 6 ∨ 10 < p) → W p = V p := by
  have hx2 := fx_other hx
  have fk := flen_k hx2.1
  obtain ⟨s1, s2, s3, s4, s5, s6⟩ := hK c (by omega)
  obtain ⟨y, hy, W, rfl, hW, fW⟩ := zloop_run (step := sX1_goBackToLatest_60 f (zi c)) (s := (fput σ f V b u, zi (lhd (K c)), zi ((K c).length : Int))) (fuel := zfuel) (K c).length
    (fun k s => ∃ W x, s = (fput σ f W b u, x, zi ((K c).length - (k : Int))) ∧ (k < (K c).length → x = zi ((K c).getD k 0 : Nat)) ∧ LLD W 6 (qu L c ((K c).take k)) ∧ ∀ p, (p ≤ 6 ∨ 10 < p) → W p = V p)
    (fun y => ∃ W, y = fput σ f W b u ∧ LLD W 6 (qu L c (K c)) ∧ ∀ p, (p ≤ 6 ∨ 10 < p) → W p = V p)
    (fun k s hk hs => by
      obtain ⟨W, x, rfl, h1, h2, h3⟩ := hs
      rw [h1 hk]
      have hr8 : (K c).getD k 0 < 800 := s5 _ (getD_mem hk)
      have hq : qu L c ((K c).take k) c = (K c).take k := qu_at _ _ _
      have hfin : LD (qu (qu L c ((K c).take k)) c (qu L c ((K c).take k) c ++ [(K c).getD k 0])) := by
        rw [hq, qu_qu, ← take_s hk]
        exact LD_sub hD (List.take_sublist _ _)
      obtain ⟨W2, e2, hW2, fW2⟩ := d_add (σ := σ) (f := f) (b := b) (u := u) (V := W) (r := (K c).getD k 0) (l := c) h (Or.inl rfl) h2 (by omega) hr8 (fresh_of hfin (by omega))
      refine Or.inl ⟨(fput σ f W2 b u, W2 (31 - b + 4 + 1) ((K c).getD k 0), zi ((K c).length - ((k + 1 : Nat) : Int))), ?_, W2, _, rfl, fun hk1 => ?_, ?_, fun p hp => ?_⟩
      · unfold sX1_goBackToLatest_60 sX1_goBackToLatest_60b
        dsimp only
        rw [if_neg (zi_nle (by omega) (by omega) (by omega)), fr_14 h, Option.bind_some, fc_3 h (Or.inl rfl), e2, Option.bind_some, fr_16 h, Option.bind_some, cr_10 h hx2.1, Option.bind_some, fc_3 h (fx_o hx2.1), c_behind h (fx_o hx2.1) hr8, Option.bind_some, zi_add, show ((K c).length : Int) - (k : Int) + -1 = ((K c).length : Int) - ((k + 1 : Nat) : Int) from by omega]
      · rw [fW2 _ (by omega), h3 _ (by omega)]
        exact s4 k (by omega)
      · rw [hq, qu_qu, ← take_s hk] at hW2
        exact hW2
      · rw [fW2 p (by omega)]; exact h3 p hp)
    (fun s hs => by
      obtain ⟨W, x, rfl, h1, h2, h3⟩ := hs
      rw [List.take_length] at h2
      refine ⟨_, ?_, W, rfl, h2, h3⟩
      unfold sX1_goBackToLatest_60 sX1_goBackToLatest_60b
      dsimp only
      rw [if_pos (by rw [zi_le (by omega) (by omega) (by omega) (by omega)]; omega)])
    (zfuel_lt (by omega)) ⟨V, zi (lhd (K c)), by rw [show ((K c).length : Int) - ((0 : Nat) : Int) = ((K c).length : Int) from by omega], fun hk => by
      rw [lhd_getD (fun q => by rw [q] at hk; exact absurd hk (Nat.not_lt_zero _))], by
      refine LLD_congr hL (fun _ _ _ => rfl) (fun d _ => ?_)
      by_cases e : d = c
      · rw [e, qu_at, hLc]; rfl
      · rw [qu_ne e], fun _ _ => rfl⟩
  exact ⟨W, hy, hW, fW⟩
end KB2
