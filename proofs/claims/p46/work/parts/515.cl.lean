/-! A barrier arrives at the class's receiver: aligning. -/
section KL
variable {σ : zS} {f b u : Nat} {V : Nat → Nat → Int32} {M : qM} {P : qP}
theorem RC_blk {r : Nat} {v : Int} {S : Nat → Int} (hC : RC V b M) (hv : v = gmask (fun x => S (43 + (4 * r + x)))) (hS : ∀ k, (k < 43 + 4 * r ∨ 43 + 4 * r + 4 ≤ k) → k < 144 → S k = M.1 k) (hr : r < 6) : RC (vs V 5 r (zi v)) b (S, M.2) := by
  obtain ⟨a0, a1, a2, a3, a4, a5, a6, a7, a8⟩ := hC.2.1
  have wp : ∀ p, p ≠ 5 → vs V 5 r (zi v) p = V p := fun p hp => vs_no hp
  refine RC_own hC ⟨row_of a0 (fun j _ => by rw [wp 0 (by omega)]) (fun j hj => gF_of (N := (S, M.2)) (fun k hk => hS k (by omega) (by omega)) hj), row_of a1 (fun j _ => by rw [wp 1 (by omega)]) (fun j hj => hS _ (by omega) (by omega)), row_of a2 (fun j _ => by rw [wp 2 (by omega)]) (fun j hj => hS _ (by omega) (by omega)), row_of a3 (fun j _ => by rw [wp 3 (by omega)]) (fun j hj => hS _ (by omega) (by omega)), row_of a4 (fun j _ => by rw [wp 4 (by omega)]) (fun j hj => hS _ (by omega) (by omega)),
    fun j hj => ?_, row_of a6 (fun j _ => by rw [wp 29 (by omega)]) (fun j hj => hS _ (by omega) (by omega)), row_of a7 (fun j _ => by rw [wp 30 (by omega)]) (fun j hj => rfl), LL_of2 a8 (fun p p1 p2 => wp p (by omega)) (fun _ _ => rfl)⟩ (fun p p1 p2 => wp p (by omega)) (fun k hk => hS k (by omega) (by omega)) (fun _ _ _ => rfl)
  by_cases e : j = r
  · rw [e, vs_at, hv]
  · rw [vs_ne (by omega), a5 j hj]
    exact congrArg zi (gmask_of fun x hx => (hS _ (by omega) (by omega)).symm)
theorem k_align {r x : Nat} (h : KS σ f u P) (hI : qI P M) (hC : RC V b M) (e67 : M.1 67 = 1) (e69 : M.1 69 = 0) (hr : r < 6) (hlc : qlc P M r x) (hB : M.2.2 (4 * r + x) = 0) : ∃ W, fX1_letBarrierArrive (fput σ f V b u) f (zi r) (zi x) = some (fput σ f W b u) ∧ RC W b (qalign P r x M) := by
  have hS := h.1
  have hx := hC.1
  have fb := flen_k hx
  have hns := qns_le hI.1.1 hI.1.2.1 r
  have hx4 : x < 4 := by have := hlc.2; omega
  have hm := hI.1.2.1.1
  have hbl : gflags (fun x => M.1 (43 + (4 * r + x))) := fun y hy => hI.1.2.1.2.2.2.2.2.2.2.2.2.2.2.2.2 (4 * r + y) (by omega)
  have hfl := k_flags hI e67 hr
  have hfl2 : gflags (qu (fun x => M.1 (74 + (4 * r + x))) x 1) := fun y hy => by
    by_cases e : y = x
    · rw [e, qu_at]; exact Or.inr rfl
    · rw [qu_ne e]; exact hfl y hy
  have m1 : ∀ k, (k < 43 ∨ 67 ≤ k ∧ k < 74 ∨ 98 ≤ k) → qu (qu M.1 (74 + (4 * r + x)) 1) (43 + (4 * r + x)) 1 k = M.1 k := fun k hk => by rw [qu_ne (by omega), qu_ne (by omega)]
  have hnsq : qns P (qu (qu M.1 (74 + (4 * r + x)) 1) (43 + (4 * r + x)) 1, M.2.1, qu M.2.2 (4 * r + x) (-1)) r = qns P M r := by
    unfold qns qmany
    dsimp only
    rw [m1 1 (by omega)]
  have hcnt : qu (fun x => M.1 (74 + (4 * r + x))) x 1 0 + qu (fun x => M.1 (74 + (4 * r + x))) x 1 1 + qu (fun x => M.1 (74 + (4 * r + x))) x 1 2 + qu (fun x => M.1 (74 + (4 * r + x))) x 1 3 = qcnt P (qu (qu M.1 (74 + (4 * r + x)) 1) (43 + (4 * r + x)) 1, M.2.1, qu M.2.2 (4 * r + x) (-1)) r := by
    have key : ∀ y, y < 4 → qu (qu M.1 (74 + (4 * r + x)) 1) (43 + (4 * r + x)) 1 (74 + (4 * r + y)) = qu (fun x => M.1 (74 + (4 * r + x))) x 1 y := fun y hy => by
      rw [qu_ne (by omega)]
      by_cases e : y = x
      · rw [e, qu_at, qu_at]
      · rw [qu_ne (by omega), qu_ne e]
    have k4 := k_cnt (P := P) (N := (qu (qu M.1 (74 + (4 * r + x)) 1) (43 + (4 * r + x)) 1, M.2.1, qu M.2.2 (4 * r + x) (-1))) (r := r) (by rw [hnsq]; exact hns.1) (fun y h1 h2 => by
      rw [hnsq] at h1
      have := hlc.2
      show qu (qu M.1 (74 + (4 * r + x)) 1) (43 + (4 * r + x)) 1 (74 + (4 * r + y)) = 0
      rw [key y h2, qu_ne (by omega)]
      exact k_none hI e67 hr h1 h2)
    dsimp only at k4
    rw [key 0 (by omega), key 1 (by omega), key 2 (by omega), key 3 (by omega)] at k4
    exact k4
  have b0 := hfl2 0 (by omega)
  have b1 := hfl2 1 (by omega)
  have b2 := hfl2 2 (by omega)
  have b3 := hfl2 3 (by omega)
  have hC2 : RC (vs (vs V 30 (4 * r + x) (zi (-1))) (b + 1) r (zi (gmask (qu (fun x => M.1 (74 + (4 * r + x))) x 1)))) b (qS (qB M (4 * r + x) (-1)) (74 + (4 * r + x)) 1) := RC_arr (M := qB M (4 * r + x) (-1)) (RC_bar hC) hr hx4
  have hC3 : RC (vs (vs (vs V 30 (4 * r + x) (zi (-1))) (b + 1) r (zi (gmask (qu (fun x => M.1 (74 + (4 * r + x))) x 1)))) 5 r (zi (gmask (qu (fun x => M.1 (43 + (4 * r + x))) x 1)))) b (qu (qu M.1 (74 + (4 * r + x)) 1) (43 + (4 * r + x)) 1, M.2.1, qu M.2.2 (4 * r + x) (-1)) := by
    refine RC_blk hC2 (gmask_of fun y hy => ?_) (fun k hk _ => ?_) hr
    · by_cases e : y = x
      · rw [e, qu_at, qu_at]
      · rw [qu_ne e, qu_ne (by omega), qu_ne (by omega)]
    · show qu (qu M.1 (74 + (4 * r + x)) 1) (43 + (4 * r + x)) 1 k = qu M.1 (74 + (4 * r + x)) 1 k
      rw [qu_ne (by omega)]
  have arr : ∀ y0 : Int32, jX1_letBarrierArrive_31 (fput σ f V b u) f (zi r) (zi x) (zi ((4 * r + x : Nat) : Int)) (zi 0) y0 =
      (if zi (qcnt P (qu (qu M.1 (74 + (4 * r + x)) 1) (43 + (4 * r + x)) 1, M.2.1, qu M.2.2 (4 * r + x) (-1)) r) = zi (qns P M r) then (zck 1 (fput σ f (vs (vs (vs V 30 (4 * r + x) (zi (-1))) (b + 1) r (zi (gmask (qu (fun x => M.1 (74 + (4 * r + x))) x 1)))) 5 r (zi (gmask (qu (fun x => M.1 (43 + (4 * r + x))) x 1)))) b u) f (fX1_cut (fput σ f (vs (vs (vs V 30 (4 * r + x) (zi (-1))) (b + 1) r (zi (gmask (qu (fun x => M.1 (74 + (4 * r + x))) x 1)))) 5 r (zi (gmask (qu (fun x => M.1 (43 + (4 * r + x))) x 1)))) b u) f (zi r))).bind fun c23 => (zgR 1 13 c23 f).bind fun v24 => (zsI c23 v24 (zi r) (zi 0)).bind fun σ25 => some σ25
        else some (fput σ f (vs (vs (vs V 30 (4 * r + x) (zi (-1))) (b + 1) r (zi (gmask (qu (fun x => M.1 (74 + (4 * r + x))) x 1)))) 5 r (zi (gmask (qu (fun x => M.1 (43 + (4 * r + x))) x 1)))) b u)) := by
    intro y0
    unfold jX1_letBarrierArrive_31
    rw [fr_19 hS, Option.bind_some, fa_wr 30 (4 * r + x) hS (by omega) rfl (by show 4 * r + x < 24; omega), Option.bind_some, fr_15 hS, Option.bind_some, cr_7 hS hx, Option.bind_some, fa_rd (b + 1) r hS (by omega) rfl (by rw [fb.1]; exact hr), Option.bind_some, vs_no (by omega), (hC.2.2.1.2 e67).2.2.2.2.2.1 r hr]
    dsimp only
    rw [m_or hfl hx4, fa_wr (b + 1) r hS (by omega) rfl (by rw [fb.1]; exact hr), Option.bind_some, fr_15 hS, Option.bind_some, cg_i hS hx, Option.bind_some, vs_no (p := b) (by omega), vs_no (p := b) (by omega), (hC.2.2.1.2 e67).2.1, e69, if_pos rfl, fr_13 hS, Option.bind_some, fa_rd 5 r hS (by omega) rfl (by show r < 6; exact hr), Option.bind_some, vs_no (p := 5) (by omega), vs_no (p := 5) (by omega), hC.2.1.2.2.2.2.2.1 r hr]
    dsimp only
    rw [m_or hbl hx4, fa_wr 5 r hS (by omega) rfl (by show r < 6; exact hr), Option.bind_some, fr_15 hS, Option.bind_some, cr_7 hS hx, Option.bind_some, fa_rd (b + 1) r hS (by omega) rfl (by rw [fb.1]; exact hr), Option.bind_some, vs_ne (by omega), vs_at, m_cnt hfl2, Option.bind_some]
    dsimp only
    rw [fc_1 hS, k_senders h hC3 (by
      show 1 ≤ qu (qu M.1 (74 + (4 * r + x)) 1) (43 + (4 * r + x)) 1 1 ∧ qu (qu M.1 (74 + (4 * r + x)) 1) (43 + (4 * r + x)) 1 1 ≤ 4
      rw [m1 1 (by omega)]
      exact hm) hr, Option.bind_some, hcnt, hnsq]
  unfold fX1_letBarrierArrive
  rw [c_channel, Option.bind_some]
  dsimp only
  rw [fr_19 hS, Option.bind_some, fa_rd 30 (4 * r + x) hS (by omega) rfl (by show 4 * r + x < 24; omega), Option.bind_some, fr_15 hS, Option.bind_some, cr_7 hS hx, Option.bind_some, fa_rd (b + 1) r hS (by omega) rfl (by rw [fb.1]; exact hr), Option.bind_some, hC.2.1.2.2.2.2.2.2.2.1 (4 * r + x) (by omega), hB, arr, arr, ite_self]
  unfold qalign
  dsimp only
  by_cases e : qcnt P (qu (qu M.1 (74 + (4 * r + x)) 1) (43 + (4 * r + x)) 1, M.2.1, qu M.2.2 (4 * r + x) (-1)) r = qns P M r
  · rw [if_pos (by rw [e]), if_pos e, fc_1 hS]
    obtain ⟨W, eW, hW, -⟩ := k_cut h hC3 (show LD M.2.1 from LD_I hI) (by
      show 1 ≤ qu (qu M.1 (74 + (4 * r + x)) 1) (43 + (4 * r + x)) 1 1 ∧ qu (qu M.1 (74 + (4 * r + x)) 1) (43 + (4 * r + x)) 1 1 ≤ 4
      rw [m1 1 (by omega)]
      exact hm) (by
      show qu (qu M.1 (74 + (4 * r + x)) 1) (43 + (4 * r + x)) 1 67 = 1
      rw [m1 67 (by omega)]
      exact e67) hr
    rw [eW, Option.bind_some, fr_13 hS, Option.bind_some, fa_wr 5 r hS (by omega) rfl (by show r < 6; exact hr), Option.bind_some]
    refine ⟨_, rfl, ?_⟩
    refine RC_blk hW ?_ (fun k hk _ => if_neg (by omega)) hr
    unfold gmask
    dsimp only
    rw [if_pos (by omega), if_pos (by omega), if_pos (by omega), if_pos (by omega)]
    rfl
  · rw [if_neg (by rw [zi_eq (by omega) (by omega) (by omega) (by omega)]; exact e), if_neg e]
    exact ⟨_, rfl, hC3⟩
end KL
