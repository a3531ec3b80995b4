/-! The class's tick. -/
theorem KN_refl (M : qM) : KN M M := ⟨rfl, rfl, rfl, rfl⟩
theorem KN_trans {A B C : qM} (h : KN A B) (g : KN B C) : KN A C := ⟨g.1.trans h.1, g.2.1.trans h.2.1, g.2.2.1.trans h.2.2.1, g.2.2.2.trans h.2.2.2⟩
theorem KN_overs {P : qP} {M : qM} {a n : Nat} (hI : qI P M) (e67 : M.1 67 = 1) (e69 : M.1 69 = 1) (ha : a + n ≤ 6) (hl : ∀ k, k < n → qlr P M (a + k)) : KN M ((List.range n).foldl (fun M k => qovers P (a + k) M) M) := by
  have key := q_fold (fun M k => qovers P (a + k) M) (fun i N => i ≤ n → qI P N ∧ N.1 67 = 1 ∧ N.1 69 = 1 ∧ KN M N) n M (fun _ => ⟨hI, e67, e69, KN_refl M⟩) (fun i N hi ih _ => by
    obtain ⟨n1, n2, n3, n4⟩ := ih (by omega)
    have hlr : qlr P N (a + i) := by
      have := hl i hi
      unfold qlr at this ⊢
      rw [KN_many n4]
      exact this
    obtain ⟨o1, o2, -⟩ := qI_overs n1 n2 n3 (r := a + i) (by omega) hlr
    exact ⟨o1, by rw [o2 _ (by omega)]; exact n2, by rw [o2 _ (by omega)]; exact n3, ⟨(o2 0 (by omega)).trans n4.1, (o2 1 (by omega)).trans n4.2.1, (o2 5 (by omega)).trans n4.2.2.1, (o2 119 (by omega)).trans n4.2.2.2⟩⟩)
  exact (key (Nat.le_refl _)).2.2.2
theorem KN_show {P : qP} {M : qM} : KN M (qshow P M) := by
  unfold qshow
  by_cases e : M.1 118 = 1 ∧ M.1 123 = 0
  · rw [if_pos e]
    have key : ∀ k, k ≠ 123 → qu M.1 123 (1 : Int) k = M.1 k := fun k hk => qu_ne hk
    exact ⟨key 0 (by omega), key 1 (by omega), key 5 (by omega), key 119 (by omega)⟩
  · rw [if_neg e]
    exact KN_refl M
section KQ
variable {σ : zS} {f b u : Nat} {V : Nat → Nat → Int32} {M : qM} {P : qP}
theorem k_overs0 (h : KS σ f u P) (hI : qI P M) (hT : KT M) (hC : RC V b M) : ∃ W, fX1_letBarriersOvertake (fput σ f V b u) f (zi 0) (zi (qmany M)) = some (fput σ f W b u) ∧ RC W b (qtickD P M) ∧ KN M (qtickD P M) := by
  have h4 := qN_many hI.1.2.1
  have hl : ∀ k, k < qmany M → qlr P M (0 + k) := fun k hk => by unfold qlr; rw [if_pos (by omega)]; omega
  obtain ⟨W, e, hW⟩ := k_overtakes (a := 0) (n := qmany M) h hI hT hC (by omega) hl
  have ed : qtickD P M = (if qovert M then (List.range (qmany M)).foldl (fun M k => qovers P (0 + k) M) M else M) := by
    unfold qtickD
    simp only [Nat.zero_add]
  rw [ed]
  refine ⟨W, e, hW, ?_⟩
  by_cases eo : qovert M = true
  · rw [if_pos eo]
    obtain ⟨e67, e69⟩ := qovert_iff.mp eo
    exact KN_overs hI e67 e69 (by omega) hl
  · rw [if_neg eo]
    exact KN_refl M
theorem k_overs4 (h : KS σ f u P) (hI : qI P M) (hT : KT M) (hC : RC V b M) : ∃ W, fX1_letBarriersOvertake (fput σ f V b u) f (zi 4) (zi P.2.1) = some (fput σ f W b u) ∧ RC W b (qtickF P M) ∧ KN M (qtickF P M) := by
  have h2 := h.2.2.2.2.2.2.1
  have hl : ∀ k, k < P.2.1 → qlr P M (4 + k) := fun k hk => by unfold qlr; rw [if_neg (by omega)]; omega
  obtain ⟨W, e, hW⟩ := k_overtakes (a := 4) (n := P.2.1) h hI hT hC (by omega) hl
  refine ⟨W, e, hW, ?_⟩
  unfold qtickF
  by_cases eo : qovert M = true
  · rw [if_pos eo]
    obtain ⟨e67, e69⟩ := qovert_iff.mp eo
    exact KN_overs hI e67 e69 (by omega) hl
  · rw [if_neg eo]
    exact KN_refl M
theorem k_time (hC : RC V b M) : RC (vs V 0 4 (zi (M.1 0 + 1))) b (qS M 0 (M.1 0 + 1)) := by
  have n1 : ∀ k, k ≠ 0 → (qS M 0 (M.1 0 + 1)).1 k = M.1 k := fun k hk => qu_ne hk
  have fb := flen_k hC.1
  refine RC_own hC (RF_of hC.2.1 (fun j hj => ?_) (fun p hp => vs_no (by omega)) (fun k k1 k2 => n1 k (by omega)) (fun _ _ => rfl) (fun _ _ => rfl)) (fun p p1 p2 => vs_no (by omega)) (fun k hk => n1 k (by omega)) (fun _ _ _ => rfl)
  by_cases e : j = 4
  · rw [e, vs_at]
    rfl
  · rw [vs_ne (by omega), hC.2.1.1 j hj]
    refine congrArg zi ?_
    unfold gF
    by_cases e0 : j = 0
    · rw [if_pos e0, if_pos e0]; exact (n1 1 (by omega)).symm
    · rw [if_neg e0, if_neg e0, if_neg e, if_neg e, n1 2 (by omega), n1 3 (by omega), n1 4 (by omega), n1 j e0]
theorem k_37 (h : KS σ f u P) (hI : qI P M) (hT : KT M) (hC : RC V b M) : ∃ W b2, jX1_tick_37 (fput σ f V b u) f = some (fput σ f W b2 u) ∧ RC W b2 (qS (qtickH P (qtickG P (qtickF P (qtickE P (qtickD P (qtickC P (qshow P M))))))) 0 ((qtickH P (qtickG P (qtickF P (qtickE P (qtickD P (qtickC P (qshow P M))))))).1 0 + 1)) := by
  have hS := h.1
  obtain ⟨W1, e1, hW1, -⟩ := k_show h hC (LD_I hI) (fun q => hI.1.2.2.2.2.2.2.2.2 q) hT.2.2.2 (fun _ => hI.1.2.1.2.2.2.2.2.2.2.2.2.1)
  obtain ⟨b1, b2⟩ := qI_show0 hI
  have t1 := KN_T (KN_show (P := P) (M := M)) hT
  obtain ⟨W2, e2, hW2, k2⟩ := k_C h b1 t1 hW1 b2
  obtain ⟨c1, c2⟩ := qI_C b1 b2
  have t2 := KN_T k2 t1
  obtain ⟨W3, e3, hW3, k3⟩ := k_overs0 h c1 t2 hW2
  obtain ⟨d1, d2, d3⟩ := qI_D c1 c2
  have t3 := KN_T k3 t2
  obtain ⟨W4, e4, hW4, k4⟩ := k_E h d1 t3 hW3 d2 d3
  obtain ⟨g1, g2⟩ := qI_E d1 d2 d3
  have t4 := KN_T k4 t3
  obtain ⟨W5, e5, hW5, k5⟩ := k_overs4 h g1 t4 hW4
  obtain ⟨f1, f2, f3⟩ := qI_F g1 g2
  have t5 := KN_T k5 t4
  obtain ⟨W6, e6, hW6, k6⟩ := k_G h f1 t5 hW5 f2 f3
  obtain ⟨j1, j2⟩ := qI_G f1 f2 f3
  have t6 := KN_T k6 t5
  obtain ⟨W7, b7, e7, hW7⟩ := k_complete h j1 t6 hW6
  have hmC : (qtickC P (qshow P M)).1 1 = (qmany (qtickC P (qshow P M)) : Int) := by
    have := c1.1.2.1.1
    unfold qmany; omega
  unfold jX1_tick_37
  rw [fc_1 hS, e1, Option.bind_some, e2, Option.bind_some, fg_i hS, Option.bind_some, hW2.2.1.1 0 (by omega), show gF (qtickC P (qshow P M)) 0 = (qmany (qtickC P (qshow P M)) : Int) from hmC, fc_1 hS, e3, Option.bind_some, e4, Option.bind_some, fr_17 hS, Option.bind_some, su_i (KS_su h), Option.bind_some, (KS_su h).2.2.1, fc_1 hS, e5, Option.bind_some, e6, Option.bind_some, fc_1 hS, e7, Option.bind_some, fg_i hS, Option.bind_some, hW7.2.1.1 4 (by omega), show ∀ N : qM, gF N 4 = N.1 0 from fun _ => rfl, zi_add, fp_i hS, Option.bind_some]
  exact ⟨_, b7, rfl, k_time hW7⟩
/-- THE CLASS'S TICK does what the tick does -/
theorem k_tick (h : KS σ f u P) (hI : qI P M) (hT : KT M) (h5 : 0 ≤ M.1 5 ∧ M.1 5 + 1 < 1000000000) (hC : RC V b M) : ∃ W b2, fX1_tick (fput σ f V b u) f = some (fput σ f W b2 u) ∧ RC W b2 (qtick P M) := by
  have hS := h.1
  have hx := hC.1
  have hN := hI.1.2.1
  have hev := hN.2.2.1
  have hT1 := hT.1
  have hT2 := hT.2.1
  have hA := qI_A hI ⟨hT.1, h5.1⟩
  have plain : qtickA M = M → ∃ W b2, jX1_tick_37 (fput σ f V b u) f = some (fput σ f W b2 u) ∧ RC W b2 (qtick P M) := fun e => by
    obtain ⟨W, b2, eW, hW⟩ := k_37 h hI hT hC
    refine ⟨W, b2, eW, ?_⟩
    unfold qtick
    rw [e]
    exact hW
  unfold fX1_tick
  rw [fg_i hS, Option.bind_some, hC.2.1.1 2 (by omega), show gF M 2 = M.1 3 from rfl]
  by_cases e : M.1 3 = 0
  · rw [if_pos (by rw [e])]
    exact plain (if_neg (fun q => q.1 e))
  · rw [if_neg (by rw [zi_eq (by omega) (by omega) (by omega) (by omega)]; exact e), fg_i hS, Option.bind_some, Option.bind_some, hC.2.1.1 4 (by omega), show gF M 4 = M.1 0 from rfl, znz_zi (by omega) (by omega) (by omega), Option.bind_some, zi_mod (by omega) (by omega) (by omega) (by omega)]
    have hmd := Int.emod_nonneg (M.1 0) e
    have hml := Int.emod_lt_of_pos (M.1 0) (b := M.1 3) (by omega)
    by_cases e2 : M.1 0 % M.1 3 = 0
    · rw [if_pos (by rw [e2]), fr_15 hS, Option.bind_some, fc_0 hS hx, kx_exists h hI hT hC, Option.bind_some]
      dsimp only
      by_cases e3 : M.1 67 = 1
      · rw [decide_eq_true e3, if_neg (show ¬ zb true = zi 0 from by decide)]
        exact plain (if_neg (fun q => by omega))
      · have e30 : M.1 67 = 0 := by
          rcases hN.2.2.2.2.2.2.2.1 with q | q
          · exact q
          · exact absurd q e3
        have ea : qtickA M = qbegin (M.1 4) M := if_pos ⟨e, e2, e30⟩
        rw [decide_eq_false e3, if_pos (show zb false = zi 0 from rfl), fg_i hS, Option.bind_some, hC.2.1.1 3 (by omega), show gF M 3 = M.1 4 from rfl, fc_1 hS]
        obtain ⟨W1, e1, hW1⟩ := k_begin hS hC hN.2.2.2.1
        rw [e1, Option.bind_some]
        rw [ea] at hA
        obtain ⟨W, b2, eW, hW⟩ := k_37 h hA ⟨hT.1, hT.2.1, h5.2, hT.2.2.2⟩ hW1
        refine ⟨W, b2, eW, ?_⟩
        unfold qtick
        rw [ea]
        exact hW
    · rw [if_neg (by rw [zi_eq (by omega) (by omega) (by omega) (by omega)]; exact e2)]
      exact plain (if_neg (fun q => e2 q.2.1))
end KQ
