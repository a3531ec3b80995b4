/-! The class's barriers overtake. -/
theorem fold_s {α : Type} (g : α → Nat → α) (a : α) (i : Nat) : (List.range (i + 1)).foldl g a = g ((List.range i).foldl g a) i := by
  rw [List.range_succ, List.foldl_append]
  rfl
section KV
variable {σ : zS} {f b u : Nat} {V : Nat → Nat → Int32} {M : qM} {P : qP}
theorem k_overs {r : Nat} {x1 x2 : Int32} (h : KS σ f u P) (hI : qI P M) (hC : RC V b M) (e67 : M.1 67 = 1) (e69 : M.1 69 = 1) (hr : r < 6) (hl : qlr P M r) : ∃ W, zloop (sX1_letBarriersOvertake_23 f x1 x2 (zi r)) zfuel (fput σ f V b u, zi 0) = some (fput σ f W b u) ∧ RC W b (qovers P r M) := by
  have hS := h.1
  have hns := qns_le hI.1.1 hI.1.2.1 r
  have hm := hI.1.2.1.1
  obtain ⟨W, eW, hW, -⟩ := cfor (σ := σ) (f := f) (b := b) (u := u) (step := sX1_letBarriersOvertake_23 f x1 x2 (zi r)) 0 (qns P M r) (fun i W => RC W b ((List.range i).foldl (fun M x => if M.2.2 (4 * r + x) = -1 then M else qover P r x M) M) ∧ qI P ((List.range i).foldl (fun M x => if M.2.2 (4 * r + x) = -1 then M else qover P r x M) M) ∧ ∀ k, k < 70 → ((List.range i).foldl (fun M x => if M.2.2 (4 * r + x) = -1 then M else qover P r x M) M).1 k = M.1 k)
    (fun i W _ hi hW => by
      obtain ⟨hW1, hW2, hW3⟩ := hW
      rw [fold_s]
      generalize (List.range i).foldl (fun M x => if M.2.2 (4 * r + x) = -1 then M else qover P r x M) M = N at hW1 hW2 hW3 ⊢
      have hq : qns P N r = qns P M r := by unfold qns qmany; rw [hW3 1 (by omega)]
      have hlr : qlr P N r := by
        unfold qlr qmany at hl ⊢
        rw [hW3 1 (by omega)]
        exact hl
      unfold sX1_letBarriersOvertake_23 sX1_letBarriersOvertake_23b
      dsimp only
      rw [fc_1 hS, k_senders h hW1 (by rw [hW3 1 (by omega)]; exact hm) hr, Option.bind_some, hq]
      dsimp only
      rw [if_neg (zi_nle (by omega) (by omega) (by omega)), fr_19 hS, Option.bind_some, c_channel, Option.bind_some]
      dsimp only
      rw [fa_rd 30 (4 * r + i) hS (by omega) rfl (by show 4 * r + i < 24; omega), Option.bind_some, hW1.2.1.2.2.2.2.2.2.2.1 (4 * r + i) (by omega)]
      have hB := qI_B hW2 (c := 4 * r + i) (by omega)
      have hlen := LD_len (o := 6) ⟨hW1.2.1.2.2.2.2.2.2.2.2, LD_I hW2⟩ (l := 4 * r + i) (by omega)
      by_cases e : N.2.2 (4 * r + i) = -1
      · rw [e, if_pos rfl, if_pos rfl]
        exact ⟨W, rfl, hW1, hW2, hW3⟩
      · rw [if_neg (by rw [zi_eq (by omega) (by omega) (by omega) (by omega)]; exact e), if_neg e, fc_1 hS]
        obtain ⟨W2, eW2, hW4⟩ := k_over h hW2 hW1 (by rw [hW3 67 (by omega)]; exact e67) (by rw [hW3 69 (by omega)]; exact e69) hr ⟨hlr, by omega⟩ e
        rw [eW2, Option.bind_some]
        exact ⟨W2, rfl, hW4, qI_over hW2 (by rw [hW3 67 (by omega)]; exact e67) (by rw [hW3 69 (by omega)]; exact e69) hr ⟨hlr, by omega⟩ e, fun k hk => by rw [(qover_same hr (by omega)).1 k (by omega)]; exact hW3 k hk⟩)
    (fun W hW => by
      obtain ⟨hW1, hW2, hW3⟩ := hW
      generalize (List.range (qns P M r)).foldl (fun M x => if M.2.2 (4 * r + x) = -1 then M else qover P r x M) M = N at hW1 hW2 hW3 ⊢
      have hq : qns P N r = qns P M r := by unfold qns qmany; rw [hW3 1 (by omega)]
      unfold sX1_letBarriersOvertake_23 sX1_letBarriersOvertake_23b
      dsimp only
      rw [fc_1 hS, k_senders h hW1 (by rw [hW3 1 (by omega)]; exact hm) hr, Option.bind_some, hq]
      dsimp only
      rw [if_pos (by rw [zi_le (by omega) (by omega) (by omega) (by omega)]; omega)])
    (by omega) (by omega) (V := V) (x := 0) rfl ⟨hC, hI, fun _ _ => rfl⟩
  exact ⟨W, eW, hW⟩
/-- all receivers from a first on -/
theorem k_overtakes {a n : Nat} (h : KS σ f u P) (hI : qI P M) (hT : KT M) (hC : RC V b M) (ha : a + n ≤ 6) (hl : ∀ k, k < n → qlr P M (a + k)) :
    ∃ W, fX1_letBarriersOvertake (fput σ f V b u) f (zi a) (zi n) = some (fput σ f W b u) ∧ RC W b (if qovert M then (List.range n).foldl (fun M k => qovers P (a + k) M) M else M) := by
  have hS := h.1
  unfold fX1_letBarriersOvertake
  rw [fr_15 hS, Option.bind_some, fc_0 hS hC.1, kx_overt h hI hT hC, Option.bind_some]
  dsimp only
  by_cases e : qovert M = true
  · have e2 := e
    unfold qovert at e2
    rw [Bool.and_eq_true, decide_eq_true_eq, decide_eq_true_eq] at e2
    rw [e, if_neg (show ¬ zb true = zi 0 from by decide), if_pos rfl]
    obtain ⟨W, eW, hW⟩ := cfor (σ := σ) (f := f) (b := b) (u := u) (step := sX1_letBarriersOvertake_13 f (zi a) (zi n)) a (a + n) (fun i W => RC W b ((List.range (i - a)).foldl (fun M k => qovers P (a + k) M) M) ∧ qI P ((List.range (i - a)).foldl (fun M k => qovers P (a + k) M) M) ∧ ∀ k, k < 70 → ((List.range (i - a)).foldl (fun M k => qovers P (a + k) M) M).1 k = M.1 k)
      (fun i W hai hi hW => by
        obtain ⟨hW1, hW2, hW3⟩ := hW
        rw [show i + 1 - a = (i - a) + 1 from by omega, fold_s]
        generalize (List.range (i - a)).foldl (fun M k => qovers P (a + k) M) M = N at hW1 hW2 hW3 ⊢
        rw [show a + (i - a) = i from by omega]
        have hlr : qlr P N i := by
          have := hl (i - a) (by omega)
          rw [show a + (i - a) = i from by omega] at this
          unfold qlr qmany at this ⊢
          rw [hW3 1 (by omega)]
          exact this
        unfold sX1_letBarriersOvertake_13 sX1_letBarriersOvertake_13b
        dsimp only
        rw [zi_add, if_neg (zi_nle (by omega) (by omega) (by omega))]
        obtain ⟨W2, eW2, hW4⟩ := k_overs (x1 := zi a) (x2 := zi n) h hW2 hW1 (by rw [hW3 67 (by omega)]; exact e2.1) (by rw [hW3 69 (by omega)]; exact e2.2) (r := i) (by omega) hlr
        rw [eW2, Option.bind_some]
        obtain ⟨q1, q2, -⟩ := qI_overs hW2 (by rw [hW3 67 (by omega)]; exact e2.1) (by rw [hW3 69 (by omega)]; exact e2.2) (r := i) (by omega) hlr
        exact ⟨W2, rfl, hW4, q1, fun k hk => by rw [q2 k (by omega)]; exact hW3 k hk⟩)
      (fun W hW => by
        unfold sX1_letBarriersOvertake_13 sX1_letBarriersOvertake_13b
        dsimp only
        rw [zi_add, if_pos (by rw [zi_le (by omega) (by omega) (by omega) (by omega)]; omega)])
      (by omega) (by omega) (V := V) (x := (a : Int)) rfl ⟨by rw [Nat.sub_self]; exact hC, by rw [Nat.sub_self]; exact hI, fun k _ => by rw [Nat.sub_self]; rfl⟩
    rw [show a + n - a = n from by omega] at hW
    rw [eW, Option.bind_some]
    exact ⟨W, rfl, hW.1⟩
  · rw [show qovert M = false from by simpa using e, if_pos (show zb false = zi 0 from rfl), if_neg (by decide)]
    exact ⟨V, rfl, hC⟩
end KV
