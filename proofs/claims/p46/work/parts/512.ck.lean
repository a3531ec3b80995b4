/-! The class's receiver keeps what stands before a barrier. -/
theorem sum_upd {g k : Nat → Nat} {c d n : Nat} (hc : c < n) (h1 : k c = g c + d) (h2 : ∀ i, i < n → i ≠ c → k i = g i) : ((List.range n).map k).sum = ((List.range n).map g).sum + d := by
  induction n with
  | zero => exact absurd hc (Nat.not_lt_zero _)
  | succ n ih =>
    rw [List.range_succ, List.map_append, List.map_append, List.sum_append, List.sum_append, List.map_singleton, List.map_singleton, List.sum_singleton, List.sum_singleton]
    by_cases e : c = n
    · subst e
      rw [h1, show (List.range c).map k = (List.range c).map g from List.map_congr_left (fun i hi => by
        rw [List.mem_range] at hi
        exact h2 i (by omega) (by omega))]
      omega
    · rw [ih (by omega) (fun i hi hic => h2 i (by omega) hic), h2 n (by omega) (fun q => e q.symm)]
      omega
theorem LD_sub {L : Nat → List Nat} {l : Nat} {t s : List Nat} (h : LD (qu L l t)) (hs : s.Sublist t) : LD (qu L l s) := by
  have := LD_less (L := qu L l t) (l := l) (t := s) h (by rw [qu_at]; exact hs)
  rwa [qu_qu] at this
theorem take_s {l : List Nat} {k : Nat} (h : k < l.length) : l.take (k + 1) = l.take k ++ [l.getD k 0] := by
  rw [List.take_succ, List.getElem?_eq_getElem h, List.getD_eq_getElem?_getD, List.getElem?_eq_getElem h]
  rfl
theorem gK_qu {S : Nat → Int} {L : Nat → List Nat} {B : Nat → Int} {c : Nat} {t : List Nat} (hc : c < 24) : gK (S, qu L (30 + c) t, B) 30 = qu (gK (S, L, B) 30) c t := by
  funext d
  unfold gK
  dsimp only
  by_cases e : d = c
  · rw [e, qu_at, if_pos hc, qu_at]
  · rw [qu_ne e]
    by_cases e2 : d < 24
    · rw [if_pos e2, if_pos e2, qu_ne (by omega)]
    · rw [if_neg e2, if_neg e2]
section KK
variable {σ : zS} {f b u : Nat} {V : Nat → Nat → Int32} {M : qM} {P : qP}
theorem k_keep {c many : Nat} (h : KS σ f u P) (hC : RC V b M) (e67 : M.1 67 = 1) (hc : c < 24) (hmany : many ≤ (M.2.1 c).length) (hD : LD (qu (gK M 30) c (M.2.1 (30 + c) ++ (M.2.1 c).take many))) :
    ∃ W, fX1_keepFirst (fput σ f V b u) f (zi c) (zi many) = some (fput σ f W b u) ∧ RC W b (M.1, qu M.2.1 (30 + c) (M.2.1 (30 + c) ++ (M.2.1 c).take many), M.2.2) := by
  have hS := h.1
  have hx := hC.1
  have fb := flen_k hx
  have fk := flen_k (fx_other hx).1
  obtain ⟨a0, a1, a2, a3, a4, a5, a6, a7, a8⟩ := hC.2.1
  obtain ⟨c0, c1⟩ := hC.2.2.1
  obtain ⟨d1, d3, d4, d5, d6, r1, r2, r3, l⟩ := c1 e67
  have hl8 : (M.2.1 c).length ≤ 800 := (a8 c (by omega)).2.2.2.2.2
  have w6 : ∀ W : Nat → Nat → Int32, (∀ p, (p ≤ b + 4 ∨ b + 8 < p) → W p = vs V b 6 (zi ((gtot M 30 : Nat) + (many : Int))) p) → LL W 6 M.2.1 := fun W hW => LL_of2 a8 (fun p p1 p2 => by rw [hW p (by omega), vs_no (by omega)]) (fun _ _ => rfl)
  obtain ⟨y, hy, W, rfl, hW, fW⟩ := zloop_run (step := sX1_keepFirst_25 f (zi c) (zi many)) (s := (fput σ f (vs V b 6 (zi ((gtot M 30 : Nat) + (many : Int)))) b u, zi (lhd (M.2.1 c)), zi 0)) (fuel := zfuel) many
    (fun k s => ∃ W x, s = (fput σ f W b u, x, zi (k : Int)) ∧ (k < many → x = zi ((M.2.1 c).getD k 0 : Nat)) ∧ LLD W (b + 4) (qu (gK M 30) c (M.2.1 (30 + c) ++ (M.2.1 c).take k)) ∧ ∀ p, (p ≤ b + 4 ∨ b + 8 < p) → W p = vs V b 6 (zi ((gtot M 30 : Nat) + (many : Int))) p)
    (fun y => ∃ W, y = fput σ f W b u ∧ LLD W (b + 4) (qu (gK M 30) c (M.2.1 (30 + c) ++ (M.2.1 c).take many)) ∧ ∀ p, (p ≤ b + 4 ∨ b + 8 < p) → W p = vs V b 6 (zi ((gtot M 30 : Nat) + (many : Int))) p)
    (fun k s hk hs => by
      obtain ⟨W, x, rfl, h1, h2, h3⟩ := hs
      rw [h1 hk]
      have hr8 : (M.2.1 c).getD k 0 < 800 := (a8 c (by omega)).2.2.2.2.1 _ (getD_mem (by omega))
      have hq : qu (gK M 30) c (M.2.1 (30 + c) ++ (M.2.1 c).take k) c = M.2.1 (30 + c) ++ (M.2.1 c).take k := qu_at _ _ _
      have hfin : LD (qu (qu (gK M 30) c (M.2.1 (30 + c) ++ (M.2.1 c).take k)) c (qu (gK M 30) c (M.2.1 (30 + c) ++ (M.2.1 c).take k) c ++ [(M.2.1 c).getD k 0])) := by
        rw [hq, qu_qu, List.append_assoc, ← take_s (by omega)]
        exact LD_sub hD (List.Sublist.append (List.Sublist.refl _) (List.take_sublist_take_left (by omega)))
      obtain ⟨W2, e2, hW2, fW2⟩ := d_add (σ := σ) (f := f) (b := b) (u := u) (V := W) (r := (M.2.1 c).getD k 0) (l := c) hS (fx_o hx) h2 (by omega) hr8 (fresh_of hfin (by omega))
      refine Or.inl ⟨(fput σ f W2 b u, W2 (6 + 1) ((M.2.1 c).getD k 0), zi ((k + 1 : Nat) : Int)), ?_, W2, _, rfl, fun hk1 => ?_, ?_, fun p hp => ?_⟩
      · unfold sX1_keepFirst_25 sX1_keepFirst_25b
        dsimp only
        rw [if_neg (zi_nle (by omega) (by omega) (by omega)), fr_15 hS, Option.bind_some, cr_10 hS hx, Option.bind_some, fc_3 hS (fx_o hx), e2, Option.bind_some, fr_14 hS, Option.bind_some, fc_3 hS (Or.inl rfl), c_behind hS (Or.inl rfl) hr8, Option.bind_some, zi_add]
        rfl
      · have := (w6 W2 (fun p hp => by rw [fW2 p (by omega)]; exact h3 p hp)) c (by omega)
        exact this.2.2.2.1 k (by omega)
      · rw [hq, qu_qu, List.append_assoc, ← take_s (by omega)] at hW2
        exact hW2
      · rw [fW2 p (by omega)]; exact h3 p hp)
    (fun s hs => by
      obtain ⟨W, x, rfl, h1, h2, h3⟩ := hs
      refine ⟨_, ?_, W, rfl, h2, h3⟩
      unfold sX1_keepFirst_25 sX1_keepFirst_25b
      dsimp only
      rw [if_pos (by rw [zi_le (by omega) (by omega) (by omega) (by omega)]; omega)])
    (zfuel_lt (by omega)) ⟨_, _, rfl, fun hk => by
      have hne : M.2.1 c ≠ [] := fun q => by rw [q] at hmany; exact absurd hk (by have : many ≤ 0 := hmany; omega)
      rw [lhd_getD hne], by
      have hg : qu (gK M 30) c (M.2.1 (30 + c) ++ (M.2.1 c).take 0) = gK M 30 := by
        funext d
        by_cases e : d = c
        · rw [e, qu_at, List.take_zero, List.append_nil]
          unfold gK
          rw [if_pos hc]
        · rw [qu_ne e]
      refine ⟨?_, LD_sub hD (List.Sublist.append (List.Sublist.refl _) (List.take_sublist_take_left (Nat.zero_le _)))⟩
      rw [hg]
      exact LL_of2 l (fun p p1 p2 => vs_no (by omega)) (fun _ _ => rfl), fun p _ => rfl⟩
  unfold fX1_keepFirst
  rw [fr_15 hS, Option.bind_some, cg_i hS hx, Option.bind_some, d6, zi_add, cp_i hS hx, Option.bind_some, fr_14 hS, Option.bind_some, fc_3 hS (Or.inl rfl), c_firstOf hS (Or.inl rfl) (w6 _ (fun _ _ => rfl)) (by omega), Option.bind_some]
  dsimp only
  rw [hy, Option.bind_some]
  have wp : ∀ p, p ≠ b → (p ≤ b + 4 ∨ b + 8 < p) → W p = V p := fun p p1 p2 => by rw [fW p p2, vs_no p1]
  refine ⟨W, rfl, hx, ?_, ?_, ?_⟩
  · exact RF_of hC.2.1 (fun j hj => by rw [wp 0 (by omega) (by omega)]; exact a0 j hj) (fun p hp => wp p (by omega) (by omega)) (fun k _ _ => rfl) (fun d hd => qu_ne (by omega)) (fun d _ => rfl)
  · refine ⟨by rw [fW b (by omega), vs_ne (by omega)]; exact c0, fun _ => ⟨?_, ?_, ?_, ?_, ?_, row_of r1 (fun j _ => by rw [wp (b + 1) (by omega) (by omega)]) (fun j hj => rfl), row_of r2 (fun j _ => by rw [wp (b + 2) (by omega) (by omega)]) (fun j hj => rfl), row_of r3 (fun j _ => by rw [wp (b + 3) (by omega) (by omega)]) (fun j hj => rfl), ?_⟩⟩
    · rw [fW b (by omega), vs_ne (by omega)]; exact d1
    · rw [fW b (by omega), vs_ne (by omega)]; exact d3
    · rw [fW b (by omega), vs_ne (by omega)]; exact d4
    · rw [fW b (by omega), vs_ne (by omega)]; exact d5
    · rw [fW b (by omega), vs_at]
      refine congrArg zi ?_
      have : gtot (M.1, qu M.2.1 (30 + c) (M.2.1 (30 + c) ++ (M.2.1 c).take many), M.2.2) 30 = gtot M 30 + many := by
        unfold gtot
        refine sum_upd hc ?_ (fun i hi hic => ?_)
        · dsimp only
          rw [qu_at, List.length_append, List.length_take]
          omega
        · dsimp only
          rw [qu_ne (by omega)]
      omega
    · rw [gK_qu hc]
      exact hW.1
  · refine RL_of hC.2.2.2 (fun p p1 p2 => ?_) (fun k _ _ => rfl) (fun d q1 q2 => qu_ne (by omega))
    have hp := fx_far (fx_other hx).1 p1 p2
    exact wp p (by omega) (by omega)
end KK
