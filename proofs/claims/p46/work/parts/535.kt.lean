/-! The class's flow: many ticks, forecasts, sums over its rows. -/
section KTc
variable {σ : zS} {f b u : Nat} {V : Nat → Nat → Int32} {M : qM} {P : qP} {z : Int}
theorem k_tick1 (h : KS σ f u P) (hI : qI P M) (hB : KB z M) (hz : z < 900000000) (hC : RC V b M) : ∃ W b2, fX1_tick (fput σ f V b u) f = some (fput σ f W b2 u) ∧ RC W b2 (qtick P M) := k_tick h hI (KB_T hB (by omega)) (KB_5 hB (by omega)) hC
/-- a loop of ticks and nothing else -/
theorem k_ticks {step : zS × Int32 → Option ((zS × Int32) ⊕ zS)} (n : Nat) (h : KS σ f u P) (hI : qI P M) (hB : KB z M) (hz : z + n < 900000000) (hC : RC V b M) (hn : n < 100000)
    (hs : ∀ i W b2, i < n → step (fput σ f W b2 u, zi (i : Int)) = (fX1_tick (fput σ f W b2 u) f).bind fun c => some (.inl (c, zi (i : Int) + zi 1)))
    (he : ∀ W b2, step (fput σ f W b2 u, zi (n : Int)) = some (.inr (fput σ f W b2 u))) : ∃ W b2, zloop step zfuel (fput σ f V b u, zi 0) = some (fput σ f W b2 u) ∧ RC W b2 (qit P n M) := by
  obtain ⟨y, hy, W, b2, rfl, hW⟩ := zloop_run (step := step) (s := (fput σ f V b u, zi 0)) (fuel := zfuel) n
    (fun i s => ∃ W b2, s = (fput σ f W b2 u, zi (i : Int)) ∧ RC W b2 (qit P i M)) (fun y => ∃ W b2, y = fput σ f W b2 u ∧ RC W b2 (qit P n M))
    (fun i s hi hs2 => by
      obtain ⟨W, b2, rfl, hW⟩ := hs2
      obtain ⟨i1, i2⟩ := qI_it hI hB i
      obtain ⟨W2, b3, e, hW2⟩ := k_tick1 h i1 i2 (by omega) hW
      exact Or.inl ⟨_, by rw [hs i W b2 hi, e, Option.bind_some], W2, b3, by rw [zi_add]; rfl, hW2⟩)
    (fun s hs2 => by
      obtain ⟨W, b2, rfl, hW⟩ := hs2
      exact ⟨_, he W b2, W, b2, rfl, hW⟩)
    (zfuel_lt (by omega)) ⟨V, b, rfl, hC⟩
  exact ⟨W, b2, hy, hW⟩
theorem k_comp {t : Nat} (h : KS σ f u P) (hI : qI P M) (hB : KB z M) (hz : z + t < 900000000) (hC : RC V b M) (ht : t < 100000) :
    ∃ W b2, fX1_ticksToCompletion (fput σ f V b u) f (zi t) = some (fput σ f W b2 u, zi (qcw P M t)) ∧ RC W b2 (qcwM P M t) := by
  have hS := h.1
  have h6 : V 0 6 = zi (M.1 6) := hC.2.1.1 6 (by omega)
  have c0 : qcomp P M 0 = false := rfl
  obtain ⟨y, hy, hq⟩ := zloop_run (step := sX1_ticksToCompletion_7 f (zi t) (zi (M.1 6))) (s := (fput σ f V b u, zi 1)) (fuel := zfuel) t
    (fun i s => ∃ W b2, s = (fput σ f W b2 u, zi ((i + 1 : Nat) : Int)) ∧ RC W b2 (qit P i M) ∧ ∀ j, j ≤ i → qcomp P M j = false)
    (fun y => (∃ W b2 k, y = .inl (fput σ f W b2 u, zi (k : Nat)) ∧ RC W b2 (qit P k M) ∧ k ≤ t ∧ (∀ j, j < k → qcomp P M j = false) ∧ qcomp P M k = true) ∨ ∃ W b2, y = .inr (fput σ f W b2 u) ∧ RC W b2 (qit P t M) ∧ ∀ j, j ≤ t → qcomp P M j = false)
    (fun i s hi hs2 => by
      obtain ⟨W, b2, rfl, hW, hj⟩ := hs2
      obtain ⟨i1, i2⟩ := qI_it hI hB i
      obtain ⟨W2, b3, e, hW2⟩ := k_tick1 h i1 i2 (by omega) hW
      have w6 : W2 0 6 = zi ((qit P (i + 1) M).1 6) := hW2.2.1.1 6 (by omega)
      by_cases q : zi (M.1 6) < zi ((qit P (i + 1) M).1 6)
      · refine Or.inr ⟨.inl (fput σ f W2 b3 u, zi ((i + 1 : Nat) : Int)), ?_, Or.inl ⟨W2, b3, i + 1, rfl, hW2, by omega, fun j h2 => hj j (by omega), ?_⟩⟩
        · unfold sX1_ticksToCompletion_7 sX1_ticksToCompletion_7b
          dsimp only
          rw [if_neg (by rw [zi_lt (by omega) (by omega) (by omega) (by omega)]; omega), fc_1 hS, e, Option.bind_some, fg_i hS, Option.bind_some, w6, if_neg (Int32.not_le.mpr q)]
        · unfold qcomp
          rw [decide_eq_true q, decide_eq_true (by omega)]; rfl
      · refine Or.inl ⟨(fput σ f W2 b3 u, zi ((i + 1 + 1 : Nat) : Int)), ?_, W2, b3, rfl, hW2, fun j h2 => ?_⟩
        · unfold sX1_ticksToCompletion_7 sX1_ticksToCompletion_7b
          dsimp only
          rw [if_neg (by rw [zi_lt (by omega) (by omega) (by omega) (by omega)]; omega), fc_1 hS, e, Option.bind_some, fg_i hS, Option.bind_some, w6, if_pos (Int32.not_lt.mp q), zi_add]
          rfl
        · by_cases e2 : j = i + 1
          · rw [e2]; unfold qcomp
            rw [decide_eq_false q, Bool.and_false]
          · exact hj j (by omega))
    (fun s hs2 => by
      obtain ⟨W, b2, rfl, hW, hj⟩ := hs2
      refine ⟨_, ?_, Or.inr ⟨W, b2, rfl, hW, hj⟩⟩
      unfold sX1_ticksToCompletion_7 sX1_ticksToCompletion_7b
      dsimp only
      rw [if_pos (by rw [zi_lt (by omega) (by omega) (by omega) (by omega)]; omega)])
    (zfuel_lt (by omega)) ⟨V, b, rfl, hC, fun j hj => by rw [Nat.le_zero.mp hj]; rfl⟩
  unfold fX1_ticksToCompletion
  rw [fg_i hS, Option.bind_some, h6, hy, Option.bind_some]
  rcases hq with ⟨W, b2, k, rfl, hW, hk, hj, hc⟩ | ⟨W, b2, rfl, hW, hj⟩
  · have e := qfind_at (n := t + 1) hj (by omega) hc
    refine ⟨W, b2, ?_, ?_⟩
    · dsimp only
      unfold qcw
      rw [e]
    · unfold qcwM qcw
      rw [e, if_neg (by omega), Int.toNat_natCast]
      exact hW
  · have e := qfind_no (p := qcomp P M) (n := t + 1) (fun i hi => hj i (by omega))
    refine ⟨W, b2, ?_, ?_⟩
    · dsimp only
      unfold qcw
      rw [e]
    · unfold qcwM qcw
      rw [e, if_pos rfl]
      exact hW
theorem all_s {n : Nat} {p : Nat → Bool} : (List.range n).all p = true ↔ ∀ i, i < n → p i = true := by
  rw [List.all_eq_true]
  exact ⟨fun h i hi => h i (List.mem_range.mpr hi), fun h i hi => h i (List.mem_range.mp hi)⟩
/-- a loop that looks at all of n and leaves at the first that is wanting -/
theorem zall {τ : zS} {step : zS × Int32 → Option ((zS × Int32) ⊕ (zS ⊕ zS))} (n : Nat) (p : Nat → Bool) (hs : ∀ i, i < n → step (τ, zi (i : Int)) = if p i = true then some (.inl (τ, zi (i : Int) + zi 1)) else some (.inr (.inl τ))) (he : step (τ, zi (n : Int)) = some (.inr (.inr τ))) (hn : n < 1000000) : zloop step zfuel (τ, zi 0) = some (if (List.range n).all p = true then .inr τ else .inl τ) := rall n p hs he hn
/-- a loop that adds up -/
theorem zsum {τ : zS} {step : zS × Int32 × Int32 → Option ((zS × Int32 × Int32) ⊕ (zS × Int32))} (n : Nat) (g : Nat → Int) (a : Int) (hs : ∀ i y, i < n → step (τ, zi y, zi (i : Int)) = some (.inl (τ, zi (y + g i), zi (i : Int) + zi 1))) (he : ∀ y, step (τ, zi y, zi (n : Int)) = some (.inr (τ, zi y))) (hn : n < 1000000) : zloop step zfuel (τ, zi a, zi 0) = some (τ, zi (a + ((List.range n).map g).sum)) := by
  obtain ⟨y, hy, hq⟩ := zloop_run (step := step) (s := (τ, zi a, zi 0)) (fuel := zfuel) n (fun i s => s = (τ, zi (a + ((List.range i).map g).sum), zi (i : Int))) (fun y => y = (τ, zi (a + ((List.range n).map g).sum)))
    (fun i s hi hs2 => by
      subst hs2
      refine Or.inl ⟨_, hs i _ hi, ?_⟩
      rw [zi_add, List.range_succ, List.map_append, List.sum_append]
      have : a + (List.map g (List.range i)).sum + g i = a + ((List.map g (List.range i)).sum + (List.map g [i]).sum) := by simp [Int.add_assoc]
      rw [this]; rfl)
    (fun s hs2 => by subst hs2; exact ⟨_, he _, rfl⟩)
    (zfuel_lt hn) (by simp)
  rw [hy, hq]
theorem k_many (hI : qI P M) (hS : fsh σ f) (hC : RC V b M) : zgI 1 0 (fput σ f V b u) f = some (zi (qmany M)) := by
  rw [fg_i hS, hC.2.1.1 0 (by omega)]
  exact congrArg (fun q => some (zi q)) (qI_many hI)
def qpos (P : qP) (M : qM) : Int := ((List.range P.1).map (fun s => M.1 (13 + s))).sum
theorem k_pos (h : KS σ f u P) (hC : RC V b M) : fX1_positionsInAll (fput σ f V b u) f = some (fput σ f V b u, zi (qpos P M)) := by
  have hS := h.1
  have hP4 := h.2.2.2.2.1
  unfold fX1_positionsInAll
  rw [zsum P.1 (fun s => M.1 (13 + s)) 0 (fun i y hi => by
    unfold sX1_positionsInAll_4 sX1_positionsInAll_4b
    dsimp only
    rw [fr_17 hS, Option.bind_some, su_i (KS_su h), Option.bind_some, (KS_su h).2.1, if_neg (zi_nle (by omega) (by omega) (by omega)), fr_10 hS, Option.bind_some, fa_rd 2 i hS (by omega) rfl (by show i < 4; omega), Option.bind_some, hC.2.1.2.2.1 i (by omega), zi_add]) (fun y => by
    unfold sX1_positionsInAll_4 sX1_positionsInAll_4b
    dsimp only
    rw [fr_17 hS, Option.bind_some, su_i (KS_su h), Option.bind_some, (KS_su h).2.1, if_pos (zi_yle (by omega) (by omega) (Int.le_refl _))]) (by omega), Option.bind_some]
  dsimp only
  rw [Int.zero_add]
  rfl
theorem sum_sub {n : Nat} {g k : Nat → Int} : ((List.range n).map (fun s => g s - k s)).sum = ((List.range n).map g).sum + ((List.range n).map (fun s => - k s)).sum := by
  induction n with
  | zero => rfl
  | succ n ih => rw [List.range_succ, List.map_append, List.map_append, List.map_append, List.sum_append, List.sum_append, List.sum_append, ih]; simp; omega
theorem sum_zero {n : Nat} {g : Nat → Int} (h : ∀ i, i < n → g i = 0) : ((List.range n).map g).sum = 0 := by
  induction n with
  | zero => rfl
  | succ n ih => rw [List.range_succ, List.map_append, List.sum_append, ih (fun i hi => h i (by omega))]; simp [h n (by omega)]
theorem k_risk (h : KS σ f u P) (hI : qI P M) (hT : KT M) (hC : RC V b M) : fX1_recordsAtRisk (fput σ f V b u) f = some (fput σ f V b u, zi (qrisk P M)) := by
  have hS := h.1
  have hP4 := h.2.2.2.2.1
  have hx2 := fx_other hC.1
  have fk := flen_k hx2.1
  have kd := k_done (u := u) hS hC hI.1.2.2.2.2.2.2.2.2 hT.2.2.2
  unfold fX1_recordsAtRisk
  rw [fc_1 hS, k_pos h hC, Option.bind_some]
  dsimp only
  have e : qrisk P M = qpos P M + ((List.range P.1).map (fun s => - M.1 (124 + s))).sum := sum_sub
  by_cases q : M.1 118 = 1
  · have r2 := (hC.2.2.2.2 q).2.2.2.2.2.1
    rw [zsum P.1 (fun s => - M.1 (124 + s)) (qpos P M) (fun i y hi => by
      unfold sX1_recordsAtRisk_7 sX1_recordsAtRisk_7b
      dsimp only
      rw [fr_16 hS, Option.bind_some, fc_0 hS hx2.1, kd, Option.bind_some, decide_eq_true q, if_neg (show ¬ zb true = zi 0 from by decide)]
      dsimp only
      rw [fr_17 hS, Option.bind_some, su_i (KS_su h), Option.bind_some, (KS_su h).2.1, if_neg (zi_nle (by omega) (by omega) (by omega)), fr_16 hS, Option.bind_some, cr_8 hS hx2.1, Option.bind_some, fa_rd (31 - b + 2) i hS (by omega) rfl (by omega), Option.bind_some, r2 i (by omega), zi_sub]
      rfl) (fun y => by
      unfold sX1_recordsAtRisk_7 sX1_recordsAtRisk_7b
      dsimp only
      rw [fr_16 hS, Option.bind_some, fc_0 hS hx2.1, kd, Option.bind_some, decide_eq_true q, if_neg (show ¬ zb true = zi 0 from by decide)]
      dsimp only
      rw [fr_17 hS, Option.bind_some, su_i (KS_su h), Option.bind_some, (KS_su h).2.1, if_pos (zi_yle (by omega) (by omega) (Int.le_refl _))]) (by omega), Option.bind_some, e]
  · have q0 : M.1 118 = 0 := by
      rcases hI.1.2.1.2.2.2.2.2.2.2.2.1 with a | a
      · exact a
      · exact absurd a q
    have z1 := (hI.1.2.2.2.2.2.2.2.1 q0).1
    have e0 : zloop (sX1_recordsAtRisk_7 f) zfuel (fput σ f V b u, zi (qpos P M), zi 0) = some (fput σ f V b u, zi (qpos P M)) := by
      show zloop (sX1_recordsAtRisk_7 f) (999999 + 1) (fput σ f V b u, zi (qpos P M), zi 0) = _
      unfold zloop sX1_recordsAtRisk_7 sX1_recordsAtRisk_7b
      dsimp only
      rw [fr_16 hS, Option.bind_some, fc_0 hS hx2.1, kd, Option.bind_some, decide_eq_false q, if_pos (show zb false = zi 0 from rfl)]
      rfl
    rw [e0, Option.bind_some, e, sum_zero (g := fun s => - M.1 (124 + s)) (fun i hi => by rw [z1 i (by omega)]; rfl), Int.add_zero]
end KTc
