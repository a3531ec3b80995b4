/-! The class's receiver takes. -/
section KM
variable {σ : zS} {f b u : Nat} {V : Nat → Nat → Int32} {M : qM} {P : qP}
theorem RC_turn {i : Nat} {v : Int} (hC : RC V b M) (hi : i < 6) : RC (vs V 29 i (zi v)) b (qS M (37 + i) v) := by
  obtain ⟨a0, a1, a2, a3, a4, a5, a6, a7, a8⟩ := hC.2.1
  have wp : ∀ p, p ≠ 29 → vs V 29 i (zi v) p = V p := fun p hp => vs_no hp
  have n1 : ∀ k, k ≠ 37 + i → (qS M (37 + i) v).1 k = M.1 k := fun k hk => qu_ne hk
  refine RC_own hC ⟨row_of a0 (fun j _ => by rw [wp 0 (by omega)]) (fun j hj => gF_of (fun k hk => n1 k (by omega)) hj), row_of a1 (fun j _ => by rw [wp 1 (by omega)]) (fun j hj => n1 _ (by omega)), row_of a2 (fun j _ => by rw [wp 2 (by omega)]) (fun j hj => n1 _ (by omega)), row_of a3 (fun j _ => by rw [wp 3 (by omega)]) (fun j hj => n1 _ (by omega)), row_of a4 (fun j _ => by rw [wp 4 (by omega)]) (fun j hj => n1 _ (by omega)), row_of a5 (fun j _ => by rw [wp 5 (by omega)]) (fun j hj => gmask_of fun x hx => n1 _ (by omega)), ?_, row_of a7 (fun j _ => by rw [wp 30 (by omega)]) (fun j hj => rfl), LL_of2 a8 (fun p p1 p2 => wp p (by omega)) (fun _ _ => rfl)⟩ (fun p p1 p2 => wp p (by omega)) (fun k hk => n1 k (by omega)) (fun _ _ _ => rfl)
  intro j hj
  show _ = zi (qu M.1 (37 + i) v (37 + j))
  by_cases e : j = i
  · rw [e, vs_at, qu_at]
  · rw [vs_ne (by omega), qu_ne (by omega)]
    exact a6 j hj
theorem RC_sum {i : Nat} {v : Int} (hC : RC V b M) (hi : i < 16) : RC (vs V 3 i (zi v)) b (qS M (17 + i) v) := by
  obtain ⟨a0, a1, a2, a3, a4, a5, a6, a7, a8⟩ := hC.2.1
  have wp : ∀ p, p ≠ 3 → vs V 3 i (zi v) p = V p := fun p hp => vs_no hp
  have n1 : ∀ k, k ≠ 17 + i → (qS M (17 + i) v).1 k = M.1 k := fun k hk => qu_ne hk
  refine RC_own hC ⟨row_of a0 (fun j _ => by rw [wp 0 (by omega)]) (fun j hj => gF_of (fun k hk => n1 k (by omega)) hj), row_of a1 (fun j _ => by rw [wp 1 (by omega)]) (fun j hj => n1 _ (by omega)), row_of a2 (fun j _ => by rw [wp 2 (by omega)]) (fun j hj => n1 _ (by omega)), ?_, row_of a4 (fun j _ => by rw [wp 4 (by omega)]) (fun j hj => n1 _ (by omega)), row_of a5 (fun j _ => by rw [wp 5 (by omega)]) (fun j hj => gmask_of fun x hx => n1 _ (by omega)), row_of a6 (fun j _ => by rw [wp 29 (by omega)]) (fun j hj => n1 _ (by omega)), row_of a7 (fun j _ => by rw [wp 30 (by omega)]) (fun j hj => rfl), LL_of2 a8 (fun p p1 p2 => wp p (by omega)) (fun _ _ => rfl)⟩ (fun p p1 p2 => wp p (by omega)) (fun k hk => n1 k (by omega)) (fun _ _ _ => rfl)
  intro j hj
  show _ = zi (qu M.1 (17 + i) v (17 + j))
  by_cases e : j = i
  · rw [e, vs_at, qu_at]
  · rw [vs_ne (by omega), qu_ne (by omega)]
    exact a3 j hj
theorem RC_hand {i : Nat} {v : Int} (hC : RC V b M) (hi : i < 4) : RC (vs V 4 i (zi v)) b (qS M (33 + i) v) := by
  obtain ⟨a0, a1, a2, a3, a4, a5, a6, a7, a8⟩ := hC.2.1
  have wp : ∀ p, p ≠ 4 → vs V 4 i (zi v) p = V p := fun p hp => vs_no hp
  have n1 : ∀ k, k ≠ 33 + i → (qS M (33 + i) v).1 k = M.1 k := fun k hk => qu_ne hk
  refine RC_own hC ⟨row_of a0 (fun j _ => by rw [wp 0 (by omega)]) (fun j hj => gF_of (fun k hk => n1 k (by omega)) hj), row_of a1 (fun j _ => by rw [wp 1 (by omega)]) (fun j hj => n1 _ (by omega)), row_of a2 (fun j _ => by rw [wp 2 (by omega)]) (fun j hj => n1 _ (by omega)), row_of a3 (fun j _ => by rw [wp 3 (by omega)]) (fun j hj => n1 _ (by omega)), ?_, row_of a5 (fun j _ => by rw [wp 5 (by omega)]) (fun j hj => gmask_of fun x hx => n1 _ (by omega)), row_of a6 (fun j _ => by rw [wp 29 (by omega)]) (fun j hj => n1 _ (by omega)), row_of a7 (fun j _ => by rw [wp 30 (by omega)]) (fun j hj => rfl), LL_of2 a8 (fun p p1 p2 => wp p (by omega)) (fun _ _ => rfl)⟩ (fun p p1 p2 => wp p (by omega)) (fun k hk => n1 k (by omega)) (fun _ _ _ => rfl)
  intro j hj
  show _ = zi (qu M.1 (33 + i) v (33 + j))
  by_cases e : j = i
  · rw [e, vs_at, qu_at]
  · rw [vs_ne (by omega), qu_ne (by omega)]
    exact a4 j hj
theorem RC_ls {W : Nat → Nat → Int32} {L2 : Nat → List Nat} (hC : RC V b M) (hW : LL W 6 L2) (fW : ∀ p, (p ≤ 6 ∨ 10 < p) → W p = V p) (hL : ∀ c, 30 ≤ c → c < 78 → L2 c = M.2.1 c) : RC W b (M.1, L2, M.2.2) := by
  obtain ⟨a0, a1, a2, a3, a4, a5, a6, a7, a8⟩ := hC.2.1
  exact RC_own hC ⟨row_of a0 (fun j _ => by rw [fW 0 (by omega)]) (fun j hj => rfl), row_of a1 (fun j _ => by rw [fW 1 (by omega)]) (fun j hj => rfl), row_of a2 (fun j _ => by rw [fW 2 (by omega)]) (fun j hj => rfl), row_of a3 (fun j _ => by rw [fW 3 (by omega)]) (fun j hj => rfl), row_of a4 (fun j _ => by rw [fW 4 (by omega)]) (fun j hj => rfl),
    row_of a5 (fun j _ => by rw [fW 5 (by omega)]) (fun j hj => rfl), row_of a6 (fun j _ => by rw [fW 29 (by omega)]) (fun j hj => rfl), row_of a7 (fun j _ => by rw [fW 30 (by omega)]) (fun j hj => rfl), hW⟩ (fun p p1 p2 => fW p (by omega)) (fun _ _ => rfl) hL
theorem LD_congr {L K : Nat → List Nat} (h : LD L) (hk : ∀ l, l < 30 → K l = L l) : LD K := by
  refine ⟨fun l hl => ?_, fun l k n hl hk2 h1 h2 => ?_⟩
  · rw [hk l hl]; exact h.1 l hl
  · rw [hk l hl] at h1
    rw [hk k hk2] at h2
    exact h.2 l k n hl hk2 h1 h2
theorem k_behind {r x : Nat} {q0 : Prop} [Decidable q0] (h : fsh σ f) (hC : RC V b M) (e67 : M.1 67 = 1) (hfl : gflags (fun y => M.1 (74 + (4 * r + y)))) (h0 : gmask (fun y => M.1 (74 + (4 * r + y))) = 0 ↔ q0) (hr : r < 6) (hx4 : x < 4) : fX0_isOnlyBehind (fput σ f V b u) (f + b) (zi r) (zi x) = some (fput σ f V b u, zb (decide (¬ q0 ∧ M.1 (74 + (4 * r + x)) = 0))) := by
  have hx := hC.1
  have fb := flen_k hx
  have hle := m_le hfl
  unfold fX0_isOnlyBehind
  rw [cr_7 h hx, Option.bind_some, fa_rd (b + 1) r h (by omega) rfl (by rw [fb.1]; exact hr), Option.bind_some, (hC.2.2.1.2 e67).2.2.2.2.2.1 r hr]
  dsimp only
  by_cases e : gmask (fun y => M.1 (74 + (4 * r + y))) = 0
  · rw [if_pos (by rw [e]), decide_eq_false (fun q => q.1 (h0.mp e)), zrZ_0]; rfl
  · rw [if_neg (by rw [zi_eq (by omega) (by omega) (by omega) (by omega)]; exact e), Option.bind_some, fa_rd (b + 1) r h (by omega) rfl (by rw [fb.1]; exact hr), Option.bind_some, (hC.2.2.1.2 e67).2.2.2.2.2.1 r hr]
    dsimp only
    rw [m_bit hfl hx4]
    rcases hfl x hx4 with e2 | e2
    · dsimp only at e2
      rw [e2, if_pos rfl, decide_eq_true ⟨fun q => e (h0.mpr q), rfl⟩, zrZ_1]; rfl
    · dsimp only at e2
      rw [e2, if_neg (by decide), decide_eq_false (fun q => by have := q.2; omega), zrZ_0]; rfl
theorem k_keep1 {c n : Nat} (h : KS σ f u P) (hC : RC V b M) (e67 : M.1 67 = 1) (hc : c < 24) (hn : n < 800) (hD0 : LD (gK M 30)) (hD : LD (qu (gK M 30) c (M.2.1 (30 + c) ++ [n]))) :
    ∃ W, fX0_keep (fput σ f V b u) (f + b) (zi c) (zi n) = some (fput σ f W b u) ∧ RC W b (M.1, qu M.2.1 (30 + c) (M.2.1 (30 + c) ++ [n]), M.2.2) := by
  have hS := h.1
  have hx := hC.1
  have fb := flen_k hx
  have fk := flen_k (fx_other hx).1
  obtain ⟨c0, c1⟩ := hC.2.2.1
  obtain ⟨d1, d3, d4, d5, d6, r1, r2, r3, l⟩ := c1 e67
  have hg : gK M 30 c = M.2.1 (30 + c) := if_pos hc
  obtain ⟨W, eW, hW, fW⟩ := d_add (σ := σ) (f := f) (b := b) (u := u) (V := V) (r := n) (l := c) hS (fx_o hx) ⟨l, hD0⟩ (by omega) hn (fresh_of (by rw [hg]; exact hD) (by omega))
  unfold fX0_keep
  rw [cr_10 hS hx, Option.bind_some, fc_3 hS (fx_o hx), eW, Option.bind_some, cg_i hS hx, Option.bind_some, fW b (by omega), d6, zi_add, cp_i hS hx, Option.bind_some]
  have wp : ∀ p, p ≠ b → (p ≤ b + 4 ∨ b + 8 < p) → vs W b 6 (zi ((gtot M 30 : Nat) + 1)) p = V p := fun p p1 p2 => by rw [vs_no p1, fW p p2]
  have w0 : ∀ j, j ≠ 6 → vs W b 6 (zi ((gtot M 30 : Nat) + 1)) b j = V b j := fun j hj => by rw [vs_ne (by omega), fW b (by omega)]
  refine ⟨_, rfl, hx, ?_, ?_, ?_⟩
  · exact RF_of hC.2.1 (fun j hj => by rw [wp 0 (by omega) (by omega)]; exact hC.2.1.1 j hj) (fun p hp => wp p (by omega) (by omega)) (fun k _ _ => rfl) (fun d hd => qu_ne (by omega)) (fun d _ => rfl)
  · refine ⟨by rw [w0 0 (by omega)]; exact c0, fun _ => ⟨?_, ?_, ?_, ?_, ?_, row_of r1 (fun j _ => by rw [wp (b + 1) (by omega) (by omega)]) (fun j hj => rfl), row_of r2 (fun j _ => by rw [wp (b + 2) (by omega) (by omega)]) (fun j hj => rfl), row_of r3 (fun j _ => by rw [wp (b + 3) (by omega) (by omega)]) (fun j hj => rfl), ?_⟩⟩
    · rw [w0 1 (by omega)]; exact d1
    · rw [w0 3 (by omega)]; exact d3
    · rw [w0 4 (by omega)]; exact d4
    · rw [w0 5 (by omega)]; exact d5
    · rw [vs_at]
      refine congrArg zi ?_
      have : gtot (M.1, qu M.2.1 (30 + c) (M.2.1 (30 + c) ++ [n]), M.2.2) 30 = gtot M 30 + 1 := by
        unfold gtot
        refine sum_upd hc ?_ (fun i hi hic => ?_)
        · dsimp only
          rw [qu_at, List.length_append, List.length_singleton]
        · dsimp only
          rw [qu_ne (by omega)]
      omega
    · rw [gK_qu hc]
      rw [hg] at hW
      exact LL_of2 hW.1 (fun p p1 p2 => vs_no (by omega)) (fun _ _ => rfl)
  · refine RL_of hC.2.2.2 (fun p p1 p2 => ?_) (fun k _ _ => rfl) (fun d q1 q2 => qu_ne (by omega))
    have hp := fx_far (fx_other hx).1 p1 p2
    exact wp p (by omega) (by omega)
end KM
