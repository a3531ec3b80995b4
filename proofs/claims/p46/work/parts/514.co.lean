/-! A barrier arrives at the class's receiver: overtaking. -/
section KO
variable {σ : zS} {f b u : Nat} {V : Nat → Nat → Int32} {M : qM} {P : qP}
theorem k_over {r x : Nat} (h : KS σ f u P) (hI : qI P M) (hC : RC V b M) (e67 : M.1 67 = 1) (e69 : M.1 69 = 1) (hr : r < 6) (hlc : qlc P M r x) (hB : M.2.2 (4 * r + x) ≠ -1) : ∃ W, fX1_letBarrierArrive (fput σ f V b u) f (zi r) (zi x) = some (fput σ f W b u) ∧ RC W b (qover P r x M) := by
  have hS := h.1
  have hx := hC.1
  have fb := flen_k hx
  have hns := qns_le hI.1.1 hI.1.2.1 r
  have hx4 : x < 4 := by have := hlc.2; omega
  have hm := hI.1.2.1.1
  have hI2 := qI_over hI e67 e69 hr hlc hB
  have e67b : (qover P r x M).1 67 = 1 := by rw [(qover_same hr hx4).1 67 (by omega)]; exact e67
  have hDk := LD_K hI2 (o := 30) (Or.inl ⟨rfl, e67b⟩)
  obtain ⟨many, hmany⟩ : ∃ n : Nat, M.2.2 (4 * r + x) = (n : Int) := ⟨(M.2.2 (4 * r + x)).toNat, by rcases qI_B hI (c := 4 * r + x) (by omega) with q | q <;> omega⟩
  have hle : many ≤ (M.2.1 (4 * r + x)).length := by rcases qI_B hI (c := 4 * r + x) (by omega) with q | q <;> omega
  have hfirst := k_first hI e67 hr
  have hle4 := m_le (k_flags hI e67 hr)
  -- once the barrier is noted
  have arr : ∀ y0 : Int32, jX1_letBarrierArrive_31 (fput σ f V b u) f (zi r) (zi x) (zi ((4 * r + x : Nat) : Int)) (zi (many : Int)) y0 =
      if y0 = zi 0 then jX1_letBarrierArrive_75 (fput σ f (vs (vs V 30 (4 * r + x) (zi (-1))) (b + 1) r (zi (gmask (qu (fun x => M.1 (74 + (4 * r + x))) x 1)))) b u) f (zi ((4 * r + x : Nat) : Int)) (zi (many : Int)) else
        (zck 1 (fput σ f (vs (vs V 30 (4 * r + x) (zi (-1))) (b + 1) r (zi (gmask (qu (fun x => M.1 (74 + (4 * r + x))) x 1)))) b u) f (fX1_cut (fput σ f (vs (vs V 30 (4 * r + x) (zi (-1))) (b + 1) r (zi (gmask (qu (fun x => M.1 (74 + (4 * r + x))) x 1)))) b u) f (zi r))).bind fun c28 => jX1_letBarrierArrive_75 c28 f (zi ((4 * r + x : Nat) : Int)) (zi (many : Int)) := by
    intro y0
    unfold jX1_letBarrierArrive_31
    rw [fr_19 hS, Option.bind_some, fa_wr 30 (4 * r + x) hS (by omega) rfl (by show 4 * r + x < 24; omega), Option.bind_some, fr_15 hS, Option.bind_some, cr_7 hS hx, Option.bind_some, fa_rd (b + 1) r hS (by omega) rfl (by rw [fb.1]; exact hr), Option.bind_some, vs_no (by omega), (hC.2.2.1.2 e67).2.2.2.2.2.1 r hr]
    dsimp only
    rw [m_or (k_flags hI e67 hr) hx4, fa_wr (b + 1) r hS (by omega) rfl (by rw [fb.1]; exact hr), Option.bind_some, fr_15 hS, Option.bind_some, cg_i hS hx, Option.bind_some, vs_no (by omega), vs_no (by omega), (hC.2.2.1.2 e67).2.1, e69, if_neg (by decide)]
  have hC2 : RC (vs (vs V 30 (4 * r + x) (zi (-1))) (b + 1) r (zi (gmask (qu (fun x => M.1 (74 + (4 * r + x))) x 1)))) b (qS (qB M (4 * r + x) (-1)) (74 + (4 * r + x)) 1) := RC_arr (M := qB M (4 * r + x) (-1)) (RC_bar hC) hr hx4
  unfold fX1_letBarrierArrive
  rw [c_channel, Option.bind_some]
  dsimp only
  rw [fr_19 hS, Option.bind_some, fa_rd 30 (4 * r + x) hS (by omega) rfl (by show 4 * r + x < 24; omega), Option.bind_some, fr_15 hS, Option.bind_some, cr_7 hS hx, Option.bind_some, fa_rd (b + 1) r hS (by omega) rfl (by rw [fb.1]; exact hr), Option.bind_some, (hC.2.2.1.2 e67).2.2.2.2.2.1 r hr, hC.2.1.2.2.2.2.2.2.2.1 (4 * r + x) (by omega), hmany]
  dsimp only
  by_cases e : gmask (fun x => M.1 (74 + (4 * r + x))) = 0
  · have hq0 := hfirst.mp e
    have hqo : qover P r x M = (qu (qcut P r M).1 (74 + (4 * r + x)) 1, qu (qcut P r M).2.1 (30 + (4 * r + x)) ((qcut P r M).2.1 (30 + (4 * r + x)) ++ (M.2.1 (4 * r + x)).take many), qu (qcut P r M).2.2 (4 * r + x) (-1)) := by
      unfold qover
      dsimp only
      rw [if_pos hq0, hmany]
      rfl
    rw [hqo] at hDk ⊢
    rw [if_pos (by rw [e]), arr, if_neg (by decide), fc_1 hS]
    obtain ⟨W, eW, hW, -⟩ := k_cut h hC2 (show LD M.2.1 from LD_I hI) (by
      show 1 ≤ qu M.1 (74 + (4 * r + x)) 1 1 ∧ qu M.1 (74 + (4 * r + x)) 1 1 ≤ 4
      rw [qu_ne (by omega)]
      exact hm) (by
      show qu M.1 (74 + (4 * r + x)) 1 67 = 1
      rw [qu_ne (by omega)]
      exact e67) hr
    rw [qcut_comm hr hx4] at hW
    rw [eW, Option.bind_some]
    unfold jX1_letBarrierArrive_75
    rw [gK_qu (by omega)] at hDk
    have eL : (qcut P r M).2.1 (4 * r + x) = M.2.1 (4 * r + x) := qcut_L hr (by omega)
    obtain ⟨W2, eW2, hW2⟩ := k_keep (c := 4 * r + x) (many := many) h hW (by
      show qu (qcut P r M).1 (74 + (4 * r + x)) 1 67 = 1
      rw [qu_ne (by omega), qcut_S (by omega)]
      exact e67) (by omega) (by
      show many ≤ ((qcut P r M).2.1 (4 * r + x)).length
      rw [eL]; exact hle) (by
      show LD (qu _ _ ((qcut P r M).2.1 (30 + (4 * r + x)) ++ ((qcut P r M).2.1 (4 * r + x)).take many))
      rw [eL]; exact hDk)
    rw [fc_1 hS, eW2, Option.bind_some]
    dsimp only at hW2
    rw [eL] at hW2
    exact ⟨W2, rfl, hW2⟩
  · have hq0 : qcnt P M r ≠ 0 := fun q => e (hfirst.mpr q)
    have hqo : qover P r x M = (qu M.1 (74 + (4 * r + x)) 1, qu M.2.1 (30 + (4 * r + x)) (M.2.1 (30 + (4 * r + x)) ++ (M.2.1 (4 * r + x)).take many), qu M.2.2 (4 * r + x) (-1)) := by
      unfold qover
      dsimp only
      rw [if_neg hq0, hmany]
      rfl
    rw [hqo] at hDk ⊢
    rw [if_neg (by rw [zi_eq (by omega) (by omega) (by omega) (by omega)]; exact e), arr, if_pos rfl]
    unfold jX1_letBarrierArrive_75
    rw [gK_qu (by omega)] at hDk
    obtain ⟨W2, eW2, hW2⟩ := k_keep (c := 4 * r + x) (many := many) h hC2 (by
      show qu M.1 (74 + (4 * r + x)) 1 67 = 1
      rw [qu_ne (by omega)]
      exact e67) (by omega) hle hDk
    rw [fc_1 hS, eW2, Option.bind_some]
    exact ⟨W2, rfl, hW2⟩
end KO
