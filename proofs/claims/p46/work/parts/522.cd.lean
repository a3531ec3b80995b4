/-! The class's checkpoint is completed. -/
section KD2
variable {σ : zS} {f b u : Nat} {V : Nat → Nat → Int32} {M : qM} {P : qP}
theorem RC_done (hC : RC V b M) (e67 : M.1 67 = 1) : RC (vs (vs (vs V b 2 (zi (M.1 0))) (31 - b) 0 (zi 0)) 0 6 (zi (M.1 6 + 1))) (31 - b) (qcomplete M) := by
  have hx := hC.1
  have hx2 := fx_other hx
  have fb := flen_k hx
  have fk := flen_k hx2.1
  have far := fun p (q1 : b ≤ p) (q2 : p ≤ b + 8) => fx_far hx q1 q2
  have hb : b = 11 ∨ b = 20 := hx
  obtain ⟨c0, c1⟩ := hC.2.2.1
  obtain ⟨d1, d3, d4, d5, d6, r1, r2, r3, l⟩ := c1 e67
  have wp : ∀ p, p ≠ b → p ≠ 31 - b → p ≠ 0 → vs (vs (vs V b 2 (zi (M.1 0))) (31 - b) 0 (zi 0)) 0 6 (zi (M.1 6 + 1)) p = V p := fun p p1 p2 p3 => by rw [vs_no p3, vs_no p2, vs_no p1]
  have wb : ∀ j, j ≠ 2 → vs (vs (vs V b 2 (zi (M.1 0))) (31 - b) 0 (zi 0)) 0 6 (zi (M.1 6 + 1)) b j = V b j := fun j hj => by rw [vs_no (by omega), vs_no (by omega), vs_ne (by omega)]
  have n1 : ∀ k, k < 118 → k ≠ 67 → k ≠ 6 → (qcomplete M).1 k = M.1 k := fun k k1 k2 k3 => by
    unfold qcomplete
    dsimp only
    rw [if_neg k2, if_neg k3, if_neg (by omega), if_neg (by omega), if_neg (by omega), if_neg (by omega), if_neg (by omega), if_neg (by omega), if_neg (by omega)]
  have nl : ∀ c, c < 54 → (qcomplete M).2.1 c = M.2.1 c := fun c hc => if_neg (by omega)
  have nk : ∀ c, c < 24 → (qcomplete M).2.1 (54 + c) = M.2.1 (30 + c) := fun c hc => by
    unfold qcomplete
    dsimp only
    rw [if_pos (by omega), show 54 + c - 24 = 30 + c from by omega]
  refine ⟨hx2.1, RF_of hC.2.1 (fun j hj => ?_) (fun p hp => wp p (by omega) (by omega) (by omega)) (fun k k1 k2 => n1 k (by omega) (by omega) (by omega)) (fun c hc => nl c (by omega)) (fun _ _ => rfl), ?_, ?_⟩
  · by_cases e : j = 6
    · rw [e, vs_at]
      rfl
    · rw [vs_ne (by omega), vs_no (by omega), vs_no (by omega), hC.2.1.1 j hj]
      refine congrArg zi ?_
      unfold gF
      rw [n1 0 (by omega) (by omega) (by omega), n1 1 (by omega) (by omega) (by omega), n1 2 (by omega) (by omega) (by omega), n1 3 (by omega) (by omega) (by omega), n1 4 (by omega) (by omega) (by omega), n1 j (by omega) (by omega) e]
  · refine ⟨?_, fun e => ?_⟩
    · rw [vs_no (by omega), vs_at]
      rfl
    · exact absurd (show (0 : Int) = 1 from e) (by decide)
  · rw [show 31 - (31 - b) = b from by omega]
    refine ⟨?_, fun _ => ⟨?_, ?_, ?_, ?_, ?_, fun j hj => ?_, fun j hj => ?_, ?_⟩⟩
    · rw [wb 0 (by omega), c0, if_pos e67]
      rfl
    · rw [wb 1 (by omega), d1]; rfl
    · rw [vs_no (by omega), vs_no (by omega), vs_at]; rfl
    · rw [wb 3 (by omega), d3]; rfl
    · rw [wb 4 (by omega), d4]; rfl
    · rw [wb 6 (by omega), d6]
      refine congrArg (fun n : Nat => zi (n : Int)) ?_
      unfold gtot
      refine congrArg List.sum (List.map_congr_left (fun c hc => ?_))
      rw [List.mem_range] at hc
      rw [nk c hc]
    · rw [wp (b + 2) (by omega) (by omega) (by omega), r2 j hj]
      refine congrArg zi ?_
      show M.1 (98 + j) = (qcomplete M).1 (124 + j)
      unfold qcomplete
      dsimp only
      rw [if_neg (by omega), if_neg (by omega), if_neg (by omega), if_neg (by omega), if_neg (by omega), if_neg (by omega), if_neg (by omega), if_neg (by omega), if_pos (by omega), show 124 + j - 26 = 98 + j from by omega]
    · rw [wp (b + 3) (by omega) (by omega) (by omega), r3 j hj]
      refine congrArg zi ?_
      show M.1 (102 + j) = (qcomplete M).1 (128 + j)
      unfold qcomplete
      dsimp only
      rw [if_neg (by omega), if_neg (by omega), if_neg (by omega), if_neg (by omega), if_neg (by omega), if_neg (by omega), if_neg (by omega), if_neg (by omega), if_pos (by omega), show 128 + j - 26 = 102 + j from by omega]
    · refine LL_of2 l (fun p p1 p2 => wp p (by omega) (by omega) (by omega)) (fun c _ => ?_)
      unfold gK
      by_cases e : c < 24
      · rw [if_pos e, if_pos e, nk c e]
      · rw [if_neg e, if_neg e]
theorem fp_swap2 {α : Type} {K : zS → Option α} {b2 : Nat} (h : fsh σ f) (hb : b2 = 31 - b) (hb2 : b = 31 - b2) : ((zpR 1 16 (fput σ f V b u) f (some (f + b))).bind fun σ23 => (zpR 1 15 σ23 f (some (f + b2))).bind K) = K (fput σ f V b2 u) := by
  rw [← Option.bind_assoc, fp_swap h hb hb2, Option.bind_some]
theorem k_complete (h : KS σ f u P) (hI : qI P M) (hT : KT M) (hC : RC V b M) : ∃ W b2, fX1_completeIfAllArrived (fput σ f V b u) f = some (fput σ f W b2 u) ∧ RC W b2 (qtickH P M) := by
  have hS := h.1
  have hx := hC.1
  have hP := h.2.2.2
  have h1 := hP.1
  have h2 := hP.2.1
  have h3 := hP.2.2.1
  have h4 := hP.2.2.2.1
  have hm := hI.1.2.1.1
  unfold fX1_completeIfAllArrived qtickH
  rw [fr_15 hS, Option.bind_some, fc_0 hS hx, kx_exists h hI hT hC, Option.bind_some]
  dsimp only
  have hx2 := fx_other hx
  have fb := flen_k hx
  have fk := flen_k hx2.1
  by_cases e67 : M.1 67 = 1
  · have ka1 : fX0_arrivedFrom (fput σ f V b u) (f + b) (zi 0) (zi 4) = some (fput σ f V b u, zi (qas M 0 4)) := k_arrived (a := 0) (e := 4) hS hI hC e67 (by omega) (by omega)
    have ka2 : fX0_arrivedFrom (fput σ f V b u) (f + b) (zi 4) (zi 6) = some (fput σ f V b u, zi (qas M 4 2)) := k_arrived (a := 4) (e := 6) hS hI hC e67 (by omega) (by omega)
    have hfull := k_full hI e67
    obtain ⟨o69, o70, -⟩ := (hI.1.2.2.2.2.2.1 e67).1
    have p0 := o70 0 (by omega)
    have p1 := o70 1 (by omega)
    have p2 := o70 2 (by omega)
    have p3 := o70 3 (by omega)
    have s0 := (k_s4 hI e67 (r := 0) (by omega)).1
    have s1 := (k_s4 hI e67 (r := 1) (by omega)).1
    have s2 := (k_s4 hI e67 (r := 2) (by omega)).1
    have s3 := (k_s4 hI e67 (r := 3) (by omega)).1
    have s4 := (k_s4 hI e67 (r := 4) (by omega)).1
    have s5 := (k_s4 hI e67 (r := 5) (by omega)).1
    have n0 := (qns_le hI.1.1 hI.1.2.1 0).1
    have n1 := (qns_le hI.1.1 hI.1.2.1 1).1
    have n2 := (qns_le hI.1.1 hI.1.2.1 2).1
    have n3 := (qns_le hI.1.1 hI.1.2.1 3).1
    have n4 := (qns_le hI.1.1 hI.1.2.1 4).1
    have n5 := (qns_le hI.1.1 hI.1.2.1 5).1
    have b1 : 0 ≤ qas M 0 4 ∧ qas M 0 4 ≤ 100 := by
      rw [show qas M 0 4 = 0 + qs4 M 0 + qs4 M 1 + qs4 M 2 + qs4 M 3 from rfl]; omega
    have b2 : 0 ≤ qas M 4 2 ∧ qas M 4 2 ≤ 100 := by
      rw [show qas M 4 2 = 0 + qs4 M 4 + qs4 M 5 from rfl]; omega
    have m1 : 0 ≤ (P.1 : Int) * M.1 1 ∧ (P.1 : Int) * M.1 1 ≤ 4 * 4 := ⟨Int.mul_nonneg (by omega) (by omega), Int.mul_le_mul (by omega) (by omega) (by omega) (by omega)⟩
    have m2 : 0 ≤ M.1 1 * (P.2.1 : Int) ∧ M.1 1 * (P.2.1 : Int) ≤ 4 * 4 := ⟨Int.mul_nonneg (by omega) (by omega), Int.mul_le_mul (by omega) (by omega) (by omega) (by omega)⟩
    rw [decide_eq_true e67, if_neg (show ¬ zb true = zi 0 from by decide), fr_15 hS, Option.bind_some, cg_i hS hx, Option.bind_some, (hC.2.2.1.2 e67).2.2.2.1, m_cnt (fun s hs => o70 s hs), Option.bind_some]
    dsimp only
    rw [fr_17 hS, Option.bind_some, su_i (KS_su h), Option.bind_some, (KS_su h).2.1]
    by_cases g1 : (P.1 : Int) ≤ M.1 (70 + 0) + M.1 (70 + 1) + M.1 (70 + 2) + M.1 (70 + 3)
    · rw [if_neg (by rw [zi_lt (by omega) (by omega) (by omega) (by omega)]; omega), fr_15 hS, Option.bind_some, fc_0 hS hx, ka1, Option.bind_some]
      dsimp only
      rw [fr_17 hS, Option.bind_some, su_i (KS_su h), Option.bind_some, (KS_su h).2.1, fg_i hS, Option.bind_some, hC.2.1.1 0 (by omega), show gF M 0 = M.1 1 from rfl, zi_mul]
      by_cases g2 : (P.1 : Int) * M.1 1 ≤ qas M 0 4
      · rw [if_neg (by rw [zi_lt (by omega) (by omega) (by omega) (by omega)]; omega), fr_15 hS, Option.bind_some, fc_0 hS hx, ka2, Option.bind_some]
        dsimp only
        rw [fg_i hS, Option.bind_some, fr_17 hS, Option.bind_some, su_i (KS_su h), Option.bind_some, (KS_su h).2.2.1, hC.2.1.1 0 (by omega), show gF M 0 = M.1 1 from rfl, zi_mul]
        by_cases g3 : M.1 1 * (P.2.1 : Int) ≤ qas M 4 2
        · rw [if_pos (by rw [zi_le (by omega) (by omega) (by omega) (by omega)]; omega), if_pos (hfull.mpr ⟨g1, g2, g3⟩), fr_15 hS, Option.bind_some, fg_i hS, Option.bind_some, hC.2.1.1 4 (by omega), show gF M 4 = M.1 0 from rfl, cp_i hS hx, Option.bind_some, fr_16 hS, Option.bind_some, fr_15 hS, Option.bind_some, fp_swap2 hS rfl (by omega)]
          rw [fr_15 hS, Option.bind_some, cp_i hS hx2.1, Option.bind_some, fg_i hS, Option.bind_some, vs_no (by omega), vs_no (by omega), hC.2.1.1 6 (by omega), show gF M 6 = M.1 6 from rfl, zi_add, fp_i hS, Option.bind_some]
          exact ⟨_, 31 - b, rfl, RC_done hC e67⟩
        · rw [if_neg (by rw [zi_le (by omega) (by omega) (by omega) (by omega)]; omega), if_neg (fun q => g3 (hfull.mp q).2.2)]
          exact ⟨V, b, rfl, hC⟩
      · rw [if_pos (by rw [zi_lt (by omega) (by omega) (by omega) (by omega)]; omega), if_neg (fun q => g2 (hfull.mp q).2.1)]
        exact ⟨V, b, rfl, hC⟩
    · rw [if_pos (by rw [zi_lt (by omega) (by omega) (by omega) (by omega)]; omega), if_neg (fun q => g1 (hfull.mp q).1)]
      exact ⟨V, b, rfl, hC⟩
  · rw [decide_eq_false e67, if_pos (show zb false = zi 0 from rfl), if_neg (fun q => e67 (qfull_of q).1)]
    exact ⟨V, b, rfl, hC⟩
end KD2
