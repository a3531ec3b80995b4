/-! The class's tick: its loops. -/
/-- the numbers that bound a flow stay -/
def KN (M N : qM) : Prop := N.1 0 = M.1 0 ∧ N.1 1 = M.1 1 ∧ N.1 5 = M.1 5 ∧ N.1 119 = M.1 119
theorem KN_T {M N : qM} (h : KN M N) (hT : KT M) : KT N := by
  obtain ⟨a, b, c, d⟩ := h
  unfold KT
  rw [a, c, d]
  exact hT
theorem KN_many {M N : qM} (h : KN M N) : qmany N = qmany M := by unfold qmany; rw [h.2.1]
theorem qhandle_lo {P : qP} {M : qM} {r k : Nat} (hI : qI P M) (hr : r < 6) (hl : qlr P M r) (hk : k < 9) : (qhandle P r M).1 k = M.1 k := by
  unfold qhandle
  cases e : qturn P r M with
  | none => rfl
  | some x =>
    have hns := qns_le hI.1.1 hI.1.2.1 r
    have hx4 : x < 4 := by have := (qturn_mem e).1; omega
    dsimp only
    unfold qtake
    by_cases e2 : M.2.2 (4 * r + x) = 0
    · rw [if_pos e2, qalign_same hr hx4 k (by omega)]
      exact qu_ne (by omega)
    · rw [if_neg e2]
      cases M.2.1 (4 * r + x) with
      | nil => rfl
      | cons n rest =>
        dsimp only
        unfold qmove qmv
        dsimp only
        by_cases e3 : r < 4
        · rw [if_pos e3, qu_ne (by omega), qu_ne (by omega), qu_ne (by omega)]
        · rw [if_neg e3, qu_ne (by omega)]
section KI
variable {σ : zS} {f b u : Nat} {V : Nat → Nat → Int32} {M : qM} {P : qP}
theorem k_C (h : KS σ f u P) (hI : qI P M) (hT : KT M) (hC : RC V b M) (hno : ¬ qhid M) : ∃ W, zloop (sX1_tick_43 f) zfuel (fput σ f V b u, zi 0) = some (fput σ f W b u) ∧ RC W b (qtickC P M) ∧ KN M (qtickC P M) := by
  have hP4 := h.2.2.2.2.1
  obtain ⟨W, e, N, rfl, hW, -, -, hk⟩ := cfor (σ := σ) (f := f) (b := b) (u := u) (step := sX1_tick_43 f) 0 P.1 (fun t W => ∃ N, N = (List.range t).foldl (fun M s => qsend P s (qput s M)) M ∧ RC W b N ∧ qI P N ∧ ¬ qhid N ∧ KN M N) (fun t W _ ht hB => by
    obtain ⟨N, hN, hB, n1, n2, n3⟩ := hB
    obtain ⟨W1, e1, hW1⟩ := k_put h n1 (KN_T n3 hT) hB ht
    have h1 := qI_put n1 ht n2
    obtain ⟨W2, e2, hW2⟩ := k_send h h1 hW1 ht
    have h2 : ¬ qhid (qput t N) := by
      unfold qhid
      rw [qput_same _ (by omega) (by omega), qput_same _ (by omega) (by omega)]
      exact n2
    refine ⟨W2, ?_, _, (q_fold_succ _ t M).symm, by rw [← hN]; exact hW2, ?_⟩
    · unfold sX1_tick_43 sX1_tick_43b
      dsimp only
      rw [fr_17 h.1, Option.bind_some, su_i (KS_su h), Option.bind_some, (KS_su h).2.1, if_neg (zi_nle (by omega) (by omega) (by omega)), fc_1 h.1, e1, Option.bind_some, fc_1 h.1, e2, Option.bind_some]
    · rw [← hN]
      have key : ∀ k, (k = 0 ∨ k = 1 ∨ k = 5 ∨ k = 119) → (qsend P t (qput t N)).1 k = N.1 k := fun k hk => by
        rw [qsend_same _ (by omega) (by omega), qput_same _ (by omega) (by omega)]
      refine ⟨qI_send h1 ht, ?_, ?_⟩
      · unfold qhid
        rw [qsend_same _ (by omega) (by omega), qsend_same _ (by omega) (by omega)]
        exact h2
      · obtain ⟨a, b1, c, d⟩ := n3
        exact ⟨(key 0 (by omega)).trans a, (key 1 (by omega)).trans b1, (key 5 (by omega)).trans c, (key 119 (by omega)).trans d⟩) (fun W _ => by
    unfold sX1_tick_43 sX1_tick_43b
    dsimp only
    rw [fr_17 h.1, Option.bind_some, su_i (KS_su h), Option.bind_some, (KS_su h).2.1, if_pos (zi_yle (by omega) (by omega) (by omega))]) (by omega) (by omega) (x := 0) rfl ⟨M, rfl, hC, hI, hno, rfl, rfl, rfl, rfl⟩
  exact ⟨W, e, hW, hk⟩
theorem k_E (h : KS σ f u P) (hI : qI P M) (hT : KT M) (hC : RC V b M) (hno : ¬ qhid M) (hnb : ∀ r, r < 4 → qNB M r) : ∃ W, zloop (sX1_tick_81 f) zfuel (fput σ f V b u, zi 0) = some (fput σ f W b u) ∧ RC W b (qtickE P M) ∧ KN M (qtickE P M) := by
  have h4 := qN_many hI.1.2.1
  have hm := hI.1.2.1.1
  have hmq : M.1 1 = (qmany M : Int) := by unfold qmany; omega
  obtain ⟨W, e, N, rfl, hW, -, -, hk, -⟩ := cfor (σ := σ) (f := f) (b := b) (u := u) (step := sX1_tick_81 f) 0 (qmany M) (fun t W => ∃ N, N = (List.range t).foldl (fun M i => qhandle P i M) M ∧ RC W b N ∧ qI P N ∧ ¬ qhid N ∧ KN M N ∧ ∀ r, r < 4 → qNB N r) (fun t W _ ht hB => by
    obtain ⟨N, hN, hB, n1, n2, n4, n5⟩ := hB
    have hmN : t < qmany N := by rw [KN_many n4]; exact ht
    have hlr : qlr P N t := by unfold qlr; rw [if_pos (by omega)]; exact hmN
    obtain ⟨W1, e1, hW1⟩ := k_handle h n1 (KN_T n4 hT) hB n2 (r := t) (by omega) hlr (n5 t (by omega))
    obtain ⟨o1, o2, o3⟩ := qI_handle n1 n2 (r := t) (by omega) hlr (n5 t (by omega))
    refine ⟨W1, ?_, _, (q_fold_succ _ t M).symm, by rw [← hN]; exact hW1, ?_⟩
    · unfold sX1_tick_81 sX1_tick_81b
      dsimp only
      rw [fg_i h.1, Option.bind_some, hB.2.1.1 0 (by omega), show gF N 0 = (qmany M : Int) from n4.2.1.trans hmq, if_neg (zi_nle (by omega) (by omega) (by omega)), ← Option.bind_assoc, e1, Option.bind_some]
    · rw [← hN]
      have key : ∀ k, k < 9 → (qhandle P t N).1 k = N.1 k := fun k hk => qhandle_lo n1 (by omega) hlr hk
      refine ⟨o1, ?_, ⟨(key 0 (by omega)).trans n4.1, (key 1 (by omega)).trans n4.2.1, (key 5 (by omega)).trans n4.2.2.1, (o2 119 (by omega)).trans n4.2.2.2⟩, fun r hr a b x hx => ?_⟩
      · unfold qhid; rw [o2 118 (by omega), o2 123 (by omega)]; exact n2
      · rw [o2 67 (by omega)] at a
        rw [o2 69 (by omega)] at b
        exact o3 a b _ (n5 r hr a b x hx)) (fun W hB => by
    obtain ⟨N, hN, hB, n1, n2, n4, n5⟩ := hB
    unfold sX1_tick_81 sX1_tick_81b
    dsimp only
    rw [fg_i h.1, Option.bind_some, hB.2.1.1 0 (by omega), show gF N 0 = (qmany M : Int) from n4.2.1.trans hmq, if_pos (zi_yle (by omega) (by omega) (by omega))]) (by omega) (by omega) (x := 0) rfl ⟨M, rfl, hC, hI, hno, ⟨rfl, rfl, rfl, rfl⟩, hnb⟩
  exact ⟨W, e, hW, hk⟩
theorem k_G (h : KS σ f u P) (hI : qI P M) (hT : KT M) (hC : RC V b M) (hno : ¬ qhid M) (hnb : ∀ r, 4 ≤ r → r < 6 → qNB M r) : ∃ W, zloop (sX1_tick_119 f) zfuel (fput σ f V b u, zi 0) = some (fput σ f W b u) ∧ RC W b (qtickG P M) ∧ KN M (qtickG P M) := by
  have h2 := h.2.2.2.2.2.2.1
  obtain ⟨W, e, N, rfl, hW, -, -, hk, -⟩ := cfor (σ := σ) (f := f) (b := b) (u := u) (step := sX1_tick_119 f) 0 P.2.1 (fun t W => ∃ N, N = (List.range t).foldl (fun M k => qhandle P (4 + k) M) M ∧ RC W b N ∧ qI P N ∧ ¬ qhid N ∧ KN M N ∧ ∀ r, 4 ≤ r → r < 6 → qNB N r) (fun t W _ ht hB => by
    obtain ⟨N, hN, hB, n1, n2, n4, n5⟩ := hB
    have hlr : qlr P N (4 + t) := by unfold qlr; rw [if_neg (by omega)]; omega
    obtain ⟨W1, e1, hW1⟩ := k_handle h n1 (KN_T n4 hT) hB n2 (r := 4 + t) (by omega) hlr (n5 (4 + t) (by omega) (by omega))
    obtain ⟨o1, o2, o3⟩ := qI_handle n1 n2 (r := 4 + t) (by omega) hlr (n5 (4 + t) (by omega) (by omega))
    refine ⟨W1, ?_, _, (q_fold_succ _ t M).symm, by rw [← hN]; exact hW1, ?_⟩
    · unfold sX1_tick_119 sX1_tick_119b
      dsimp only
      rw [fr_17 h.1, Option.bind_some, su_i (KS_su h), Option.bind_some, (KS_su h).2.2.1, if_neg (zi_nle (by omega) (by omega) (by omega)), zi_add, show (4 : Int) + (t : Int) = ((4 + t : Nat) : Int) from by omega, ← Option.bind_assoc, e1, Option.bind_some]
    · rw [← hN]
      have key : ∀ k, k < 9 → (qhandle P (4 + t) N).1 k = N.1 k := fun k hk => qhandle_lo n1 (by omega) hlr hk
      refine ⟨o1, ?_, ⟨(key 0 (by omega)).trans n4.1, (key 1 (by omega)).trans n4.2.1, (key 5 (by omega)).trans n4.2.2.1, (o2 119 (by omega)).trans n4.2.2.2⟩, fun r hr1 hr a b x hx => ?_⟩
      · unfold qhid; rw [o2 118 (by omega), o2 123 (by omega)]; exact n2
      · rw [o2 67 (by omega)] at a
        rw [o2 69 (by omega)] at b
        exact o3 a b _ (n5 r hr1 hr a b x hx)) (fun W hB => by
    unfold sX1_tick_119 sX1_tick_119b
    dsimp only
    rw [fr_17 h.1, Option.bind_some, su_i (KS_su h), Option.bind_some, (KS_su h).2.2.1, if_pos (zi_yle (by omega) (by omega) (by omega))]) (by omega) (by omega) (x := 0) rfl ⟨M, rfl, hC, hI, hno, ⟨rfl, rfl, rfl, rfl⟩, hnb⟩
  exact ⟨W, e, hW, hk⟩
end KI
