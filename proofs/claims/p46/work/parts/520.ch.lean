/-! The class's receiver handles what is in turn. -/
section KH
variable {σ : zS} {f b u : Nat} {V : Nat → Nat → Int32} {M : qM} {P : qP}
theorem k_take {r x : Nat} (h : KS σ f u P) (hI : qI P M) (hT : KT M) (hC : RC V b M) (hno : ¬ qhid M) (hr : r < 6) (hlc : qlc P M r x) (hc : qcan P r x M = true) (hnb : qNB M r) : ∃ W, fX1_take (fput σ f V b u) f (zi r) (zi x) = some (fput σ f W b u) ∧ RC W b (qtake P r x M) := by
  have hS := h.1
  have hN := hI.1.2.1
  have hns := qns_le hI.1.1 hN r
  have hx4 : x < 4 := by have := hlc.2; omega
  have hB := qI_B hI (c := 4 * r + x) (by omega)
  have hlen := LD_len (o := 6) ⟨hC.2.1.2.2.2.2.2.2.2.2, LD_I hI⟩ (l := 4 * r + x) (by omega)
  obtain ⟨hI2, -, -⟩ := qI_take hI hno hr hlc hc hnb
  have hC1 : RC (vs V 29 r (zi ((x : Int) + 1))) b (qS M (37 + r) ((x : Int) + 1)) := RC_turn hC hr
  have rd : zaI (fput σ f (vs V 29 r (zi ((x : Int) + 1))) b u) (f + 30) (zi ((4 * r + x : Nat) : Int)) = some (zi (M.2.2 (4 * r + x))) := by
    rw [fa_rd 30 (4 * r + x) hS (by omega) rfl (by show 4 * r + x < 24; omega), vs_no (by omega), hC.2.1.2.2.2.2.2.2.2.1 (4 * r + x) (by omega)]
  unfold fX1_take
  rw [if_neg (by rw [zi_eq (by omega) (by omega) (by omega) (by omega)]; omega), fr_18 hS, Option.bind_some, zi_add, fa_wr 29 r hS (by omega) rfl (by show r < 6; exact hr), Option.bind_some, c_channel, Option.bind_some]
  dsimp only
  rw [fr_19 hS, Option.bind_some, rd, Option.bind_some]
  unfold qtake at hI2 ⊢
  by_cases e : M.2.2 (4 * r + x) = 0
  · rw [if_pos (by rw [e]), if_pos e, fc_1 hS]
    have e67 : M.1 67 = 1 := by
      rcases hN.2.2.2.2.2.2.2.1 with q | q
      · have := ((hI.1.2.2.2.2.1 q).1 (4 * r + x) (by omega)).1
        omega
      · exact q
    have e69 : M.1 69 = 0 := by
      rcases (hI.1.2.2.2.2.2.1 e67).1.1 with q | q
      · exact q
      · have := hnb e67 q x hx4
        omega
    have hI1 : qI P (qS M (37 + r) ((x : Int) + 1)) := qI_num hI (Or.inr (Or.inr (Or.inr (Or.inr (Or.inr ⟨by omega, by omega, by omega, by rw [show 37 + r - 37 = r from by omega]; have := hlc.2; omega⟩)))))
    have n1 : ∀ k, k ≠ 37 + r → (qS M (37 + r) ((x : Int) + 1)).1 k = M.1 k := fun k hk => qu_ne hk
    have hlc1 : qlc P (qS M (37 + r) ((x : Int) + 1)) r x := by
      unfold qlc qlr qns qmany at hlc ⊢
      rw [n1 1 (by omega)]
      exact hlc
    obtain ⟨W, eW, hW⟩ := k_align h hI1 hC1 (by rw [n1 67 (by omega)]; exact e67) (by rw [n1 69 (by omega)]; exact e69) hr hlc1 e
    rw [eW, Option.bind_some]
    exact ⟨W, rfl, hW⟩
  · rw [if_neg (by rw [zi_eq (by omega) (by omega) (by omega) (by omega)]; exact e), if_neg e, Option.bind_some, rd, Option.bind_some]
    rw [if_neg e] at hI2
    cases eL : M.2.1 (4 * r + x) with
    | nil =>
      exfalso
      unfold qcan at hc
      dsimp only at hc
      rw [if_neg e, eL] at hc
      dsimp only at hc
      rw [ite_self] at hc
      cases hc
    | cons n rest =>
      rw [eL] at hI2
      dsimp only at hI2 ⊢
      obtain ⟨W, eW, hW⟩ := k_move h hT hI hC hr hx4 eL (fun q => e q.symm) hI2
      by_cases e2 : 0 < M.2.2 (4 * r + x)
      · rw [if_neg (by rw [zi_le (by omega) (by omega) (by omega) (by omega)]; omega), Option.bind_some, rd, Option.bind_some, zi_sub, fa_wr 30 (4 * r + x) hS (by omega) rfl (by show 4 * r + x < 24; omega), Option.bind_some]
        rw [if_pos e2] at eW
        exact ⟨W, eW, hW⟩
      · rw [if_pos (by rw [zi_le (by omega) (by omega) (by omega) (by omega)]; omega)]
        rw [if_neg e2] at eW
        exact ⟨W, eW, hW⟩
/-- the sender in turn is looked for, and what it has is taken -/
theorem k_handle {r : Nat} (h : KS σ f u P) (hI : qI P M) (hT : KT M) (hC : RC V b M) (hno : ¬ qhid M) (hr : r < 6) (hl : qlr P M r) (hnb : qNB M r) :
    ∃ W, ((zck 1 (fput σ f V b u) f (fX1_senderInTurn (fput σ f V b u) f (zi r))).bind fun c12 => zck 1 c12.1 f (fX1_take c12.1 f (zi r) c12.2)) = some (fput σ f W b u) ∧ RC W b (qhandle P r M) := by
  have hS := h.1
  rw [fc_1 hS, k_turn h hI hC hr hl, Option.bind_some]
  dsimp only
  rw [fc_1 hS]
  unfold qhandle
  cases e : qturn P r M with
  | none =>
    refine ⟨V, ?_, hC⟩
    unfold fX1_take
    exact if_pos rfl
  | some x =>
    obtain ⟨h1, h2⟩ := qturn_mem e
    exact k_take h hI hT hC hno hr ⟨hl, h1⟩ h2 hnb
end KH
