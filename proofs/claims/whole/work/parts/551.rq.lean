/-! The reference's queries. -/
section RQ
variable {σ : zS} {m : Nat} {P : qP} {M : qM}
theorem r_is1 (h : rsh σ m) : fX10_is σ m (zi 1) = some (zuI σ m 0 (zi 0), zi 1) := r_is (d := true) h
theorem r_is0 (h : rsh σ m) : fX10_is σ m (zi 0) = some (zuI σ m 0 (zi 1), zi 0) := r_is (d := false) h
theorem zt : ¬ zb true = zi 0 := by decide
theorem zf : zb false = zi 0 := rfl
theorem z10 : ¬ zi 1 = zi 0 := by decide
theorem rq_count {x : Int} {n : Nat} (h : RN σ m P M) (hn : σ.2.1 m 12 = zi n) (hx : zin x) : fX10_count σ m (zi x) = some (zuI σ m 0 (zi 0), zi (aCount P M n x)) := by
  have h2 := RN_tl (v := zi 0) h
  have e : ∀ k : Int, 0 ≤ k → k < 100 → ((zi x = zi k) = (x = k)) := fun k k1 k2 => propext (zi_eq hx.1 hx.2 (by omega) (by omega))
  have hh : zgI 9 12 (zuI σ m 0 (zi 0)) m = some (zi n) := by
    rw [show zgI 9 12 (zuI σ m 0 (zi 0)) m = some ((zuI σ m 0 (zi 0)).2.1 m 12) from if_pos h2.1.1, zuI_rd, if_neg (by decide), hn]
  have L := fun (k : Nat) (hk : k < 37 ∨ 67 ≤ k ∧ k < 74 ∨ 98 ≤ k ∧ k < 144) => RN_lo (x := (k : Int)) k h2 rfl hk
  have L0 : zaI (zuI σ m 0 (zi 0)) (m + 4) (zi 0) = some (zi (M.1 0)) := L 0 (by omega)
  have L1 : zaI (zuI σ m 0 (zi 0)) (m + 4) (zi 1) = some (zi (M.1 1)) := L 1 (by omega)
  have L2 : zaI (zuI σ m 0 (zi 0)) (m + 4) (zi 2) = some (zi (M.1 2)) := L 2 (by omega)
  have L3 : zaI (zuI σ m 0 (zi 0)) (m + 4) (zi 3) = some (zi (M.1 3)) := L 3 (by omega)
  have L4 : zaI (zuI σ m 0 (zi 0)) (m + 4) (zi 4) = some (zi (M.1 4)) := L 4 (by omega)
  have L5 : zaI (zuI σ m 0 (zi 0)) (m + 4) (zi 5) = some (zi (M.1 5)) := L 5 (by omega)
  have L6 : zaI (zuI σ m 0 (zi 0)) (m + 4) (zi 6) = some (zi (M.1 6)) := L 6 (by omega)
  have L7 : zaI (zuI σ m 0 (zi 0)) (m + 4) (zi 7) = some (zi (M.1 7)) := L 7 (by omega)
  have L8 : zaI (zuI σ m 0 (zi 0)) (m + 4) (zi 8) = some (zi (M.1 8)) := L 8 (by omega)
  unfold fX10_count aCount
  simp only [r_tl h.1, e 0 (by omega) (by omega), e 1 (by omega) (by omega), e 2 (by omega) (by omega), e 3 (by omega) (by omega), e 4 (by omega) (by omega), e 5 (by omega) (by omega), e 6 (by omega) (by omega), e 7 (by omega) (by omega), e 8 (by omega) (by omega), e 9 (by omega) (by omega), e 10 (by omega) (by omega), e 11 (by omega) (by omega), RN_src h2, RN_snk h2, RN_now h2, hh, L0, L1, L2, L3, L4, L5, L6, L7, L8, Option.bind_some]
  by_cases k0 : x = 0
  · rw [if_pos k0, if_pos k0]
  · rw [if_neg k0, if_neg k0]
    by_cases k1 : x = 1
    · rw [if_pos k1, if_pos k1]
    · rw [if_neg k1, if_neg k1]
      by_cases k2 : x = 2
      · rw [if_pos k2, if_pos k2]
      · rw [if_neg k2, if_neg k2]
        by_cases k3 : x = 3
        · rw [if_pos k3, if_pos k3]
        · rw [if_neg k3, if_neg k3]
          by_cases k4 : x = 4
          · rw [if_pos k4, if_pos k4]
          · rw [if_neg k4, if_neg k4]
            by_cases k5 : x = 5
            · rw [if_pos k5, if_pos k5]
            · rw [if_neg k5, if_neg k5]
              by_cases k6 : x = 6
              · rw [if_pos k6, if_pos k6]
              · rw [if_neg k6, if_neg k6]
                by_cases k7 : x = 7
                · rw [if_pos k7, if_pos k7]
                · rw [if_neg k7, if_neg k7]
                  by_cases k8 : x = 8
                  · rw [if_pos k8, if_pos k8]
                  · rw [if_neg k8, if_neg k8]
                    by_cases k9 : x = 9
                    · rw [if_pos k9, if_pos k9]
                    · rw [if_neg k9, if_neg k9]
                      by_cases k10 : x = 10
                      · rw [if_pos k10, if_pos k10]
                      · rw [if_neg k10, if_neg k10]
                        by_cases k11 : x = 11
                        · rw [if_pos k11, if_pos k11]
                        · rw [if_neg k11, if_neg k11]
theorem rq_source {a c : Int} (h : RN σ m P M) (ha : zin a) (hc : zin c) : fX10_source σ m (zi a) (zi c) = some (zuI σ m 0 (zi (aSource P M a c).1), zi (aSource P M a c).2) := by
  have hP4 := h.2.2.2.1.1.2.1
  have bad : jX10_source_25 σ m (zi a) (zi c) m = some (zuI σ m 0 (zi 1), zi 0) := by
    unfold jX10_source_25 jX10_source_26
    rw [RN_ck h.1, r_is0 h.1, Option.bind_some]
    exact if_pos rfl
  unfold fX10_source aSource
  rw [RN_ck h.1, r_isSource h ha, Option.bind_some]
  dsimp only
  by_cases k1 : 0 ≤ a ∧ a < P.1
  · rw [decide_eq_true k1, if_neg zt, f_in (l := 0) (h := 3) (l_zi hc) rfl rfl, Option.bind_some]
    dsimp only
    by_cases k2 : 0 ≤ c ∧ c ≤ 3
    · rw [decide_eq_true k2, if_neg zt, if_pos ⟨k1, k2⟩]
      obtain ⟨s, rfl⟩ := nat_of k1.1
      have h2 := RN_tl (v := zi 0) h
      unfold jX10_source_26
      rw [RN_ck h.1, r_is1 h.1, Option.bind_some]
      dsimp only
      rw [if_neg z10]
      have hc4 : c = 0 ∨ c = 1 ∨ c = 2 ∨ c = 3 := by omega
      rcases hc4 with rfl | rfl | rfl | rfl
      · rw [if_pos rfl, RN_recs h2, Option.bind_some, RN_rec h2 (by omega), Option.bind_some]; rfl
      · rw [if_neg (by decide), if_pos rfl, RN_seeds h2, Option.bind_some, RN_seed h2 (by omega), Option.bind_some]; rfl
      · rw [if_neg (by decide), if_neg (by decide), if_pos rfl, RN_now h2, Option.bind_some, zi_add, RN_lo (9 + s) h2 (by omega) (by omega), Option.bind_some]; rfl
      · rw [if_neg (by decide), if_neg (by decide), if_neg (by decide), RN_now h2, Option.bind_some, zi_add, RN_lo (13 + s) h2 (by omega) (by omega), Option.bind_some]; rfl
    · rw [decide_eq_false k2, if_pos zf, if_neg (fun q => k2 q.2)]
      exact bad
  · rw [decide_eq_false k1, if_pos zf, if_neg (fun q => k1 q.1)]
    exact bad
theorem rq_record {a i c : Int} (h : RN σ m P M) (ha : zin a) (hi : zin i) (hc : zin c) : fX10_record σ m (zi a) (zi i) (zi c) = some (zuI σ m 0 (zi (aRecord P a i c).1), zi (aRecord P a i c).2) := by
  have hP4 := h.2.2.2.1.1.2.1
  have h200 := h.2.2.2.1.1.2.2.2.2.1
  have bad : jX10_record_23 σ m (zi a) (zi i) (zi c) m = some (zuI σ m 0 (zi 1), zi 0) := by
    unfold jX10_record_23 jX10_record_24
    rw [RN_ck h.1, r_is0 h.1, Option.bind_some]
    exact if_pos rfl
  unfold fX10_record aRecord
  rw [RN_ck h.1, r_isSource h ha, Option.bind_some]
  dsimp only
  by_cases k1 : 0 ≤ a ∧ a < P.1
  · rw [decide_eq_true k1, if_neg zt, f_in (l := 0) (h := 1) (l_zi hc) rfl rfl, Option.bind_some]
    dsimp only
    by_cases k2 : 0 ≤ c ∧ c ≤ 1
    · rw [decide_eq_true k2, if_neg zt]
      obtain ⟨s, rfl⟩ := nat_of k1.1
      have hs2 := h200 s
      have h2 := RN_tl (v := zi 0) h
      unfold jX10_record_24
      rw [RN_ck h.1, r_is1 h.1, Option.bind_some]
      dsimp only
      rw [if_neg z10, RN_recs h2, Option.bind_some, RN_rec h2 (by omega), Option.bind_some, zi_sub, f_in (l := 0) (h := (P.2.2.1 s : Int) - 1) (l_zi hi) rfl (l_zi ⟨by omega, by omega⟩), Option.bind_some]
      dsimp only
      rw [RN_ck h2.1, r_is h2.1, Option.bind_some, zuI_I, Int.toNat_natCast]
      dsimp only
      by_cases k3 : 0 ≤ i ∧ i < P.2.2.1 s
      · rw [decide_eq_true (show 0 ≤ i ∧ i ≤ (P.2.2.1 s : Int) - 1 by omega), if_neg zt, if_pos (show (0 ≤ (s : Int) ∧ (s : Int) < P.1) ∧ (0 ≤ c ∧ c ≤ 1) ∧ 0 ≤ i ∧ i < (P.2.2.1 s : Int) from ⟨k1, k2, k3⟩), if_pos (show true = true from rfl)]
        obtain ⟨j, rfl⟩ := nat_of k3.1
        have hc2 : c = 0 ∨ c = 1 := by omega
        rcases hc2 with rfl | rfl
        · rw [if_pos rfl, RN_ck h2.1, RN_key h2 (by omega) (by omega), Option.bind_some]; rfl
        · rw [if_neg z10, RN_ck h2.1, RN_val h2 (by omega) (by omega), Option.bind_some]; rfl
      · rw [decide_eq_false (show ¬ (0 ≤ i ∧ i ≤ (P.2.2.1 s : Int) - 1) by omega), if_pos zf, if_neg (show ¬ ((0 ≤ (s : Int) ∧ (s : Int) < P.1) ∧ (0 ≤ c ∧ c ≤ 1) ∧ 0 ≤ i ∧ i < (P.2.2.1 s : Int)) from fun q => k3 q.2.2), if_neg (show ¬ false = true from by decide)]
    · rw [decide_eq_false k2, if_pos zf, if_neg (fun q => k2 q.2.1)]
      exact bad
  · rw [decide_eq_false k1, if_pos zf, if_neg (fun q => k1 q.1)]
    exact bad
theorem rq_owner {a : Int} (h : RN σ m P M) (ha : zin a) : fX10_owner σ m (zi a) = some (zuI σ m 0 (zi (aOwner M a).1), zi (aOwner M a).2) := by
  unfold fX10_owner aOwner
  rw [r_isKey ha, Option.bind_some]
  dsimp only
  rw [RN_ck h.1, r_is h.1, Option.bind_some]
  dsimp only
  by_cases k1 : 0 ≤ a ∧ a < 16
  · rw [decide_eq_true k1, if_neg zt, if_pos k1, if_pos rfl]
    obtain ⟨s, rfl⟩ := nat_of k1.1
    have h2 := RN_tl (v := zi 0) h
    rw [RN_ck h2.1, RN_own h2 (by omega), Option.bind_some]
    rfl
  · rw [decide_eq_false k1, if_pos zf, if_neg k1, if_neg (by decide)]
theorem rq_sum {a : Int} (h : RN σ m P M) (ha : zin a) : fX10_sum σ m (zi a) = some (zuI σ m 0 (zi (aSum M a).1), zi (aSum M a).2) := by
  unfold fX10_sum aSum
  rw [r_isKey ha, Option.bind_some]
  dsimp only
  rw [RN_ck h.1, r_is h.1, Option.bind_some]
  dsimp only
  by_cases k1 : 0 ≤ a ∧ a < 16
  · rw [decide_eq_true k1, if_neg zt, if_pos k1, if_pos rfl]
    obtain ⟨s, rfl⟩ := nat_of k1.1
    have h2 := RN_tl (v := zi 0) h
    rw [RN_now h2, Option.bind_some, zi_add, RN_lo (17 + s) h2 (by omega) (by omega), Option.bind_some]
    rfl
  · rw [decide_eq_false k1, if_pos zf, if_neg k1, if_neg (by decide)]
theorem rq_npos {a : Int} (h : RN σ m P M) (ha : zin a) : fX10_notedPosition σ m (zi a) = some (zuI σ m 0 (zi (aNPos P M a).1), zi (aNPos P M a).2) := by
  have hP4 := h.2.2.2.1.1.2.1
  unfold fX10_notedPosition aNPos
  rw [RN_ck h.1, r_isSource h ha, Option.bind_some]
  dsimp only
  rw [RN_ck h.1, r_is h.1, Option.bind_some]
  dsimp only
  by_cases k1 : 0 ≤ a ∧ a < P.1
  · rw [decide_eq_true k1, if_neg zt, if_pos k1, if_pos rfl]
    obtain ⟨s, rfl⟩ := nat_of k1.1
    have h2 := RN_tl (v := zi 0) h
    rw [RN_now h2, Option.bind_some, zi_add, RN_lo (124 + s) h2 (by omega) (by omega), Option.bind_some]
    rfl
  · rw [decide_eq_false k1, if_pos zf, if_neg k1, if_neg (by decide)]
theorem rq_nsum {a : Int} (h : RN σ m P M) (ha : zin a) : fX10_notedSum σ m (zi a) = some (zuI σ m 0 (zi (aNSum M a).1), zi (aNSum M a).2) := by
  unfold fX10_notedSum aNSum
  rw [r_isKey ha, Option.bind_some]
  dsimp only
  rw [RN_ck h.1, r_is h.1, Option.bind_some]
  dsimp only
  by_cases k1 : 0 ≤ a ∧ a < 16
  · rw [decide_eq_true k1, if_neg zt, if_pos k1, if_pos rfl]
    obtain ⟨s, rfl⟩ := nat_of k1.1
    have h2 := RN_tl (v := zi 0) h
    rw [RN_now h2, Option.bind_some, zi_add, RN_lo (128 + s) h2 (by omega) (by omega), Option.bind_some]
    rfl
  · rw [decide_eq_false k1, if_pos zf, if_neg k1, if_neg (by decide)]
theorem rq_groups {i : Nat} (h : RN σ m P M) (hi : i < 100) : fX10_groupsOf σ m (zi i) = some (σ, zi (qgroups (qmany M) i)) := by
  have h4 := qN_many h.2.2.2.1.2.1
  unfold fX10_groupsOf
  rw [zcnt 8 (fun g => decide (qown g (qmany M) = i)) (fun g y hg => by
    unfold sX10_groupsOf_4 sX10_groupsOf_4b
    dsimp only
    have b1 : g * qmany M ≤ 7 * 4 := Nat.mul_le_mul (by omega) (by omega)
    have b2 : g * qmany M / 8 ≤ 7 := by omega
    have o1 : qown g (qmany M) = g * qmany M / 8 := by unfold qown; rw [Nat.mod_eq_of_lt hg]
    rw [if_neg (zi_nle (by omega) (by omega) (by omega)), RN_now h, Option.bind_some, RN_many h, Option.bind_some, f_ownerAmong (by omega) (by omega), Option.bind_some, o1]
    dsimp only
    generalize g * qmany M / 8 = u at *
    unfold jX10_groupsOf_28_L4
    by_cases e : u = i
    · rw [if_pos (by rw [e]), if_pos (decide_eq_true e), zi_add]
    · rw [if_neg (by rw [zi_eq (by omega) (by omega) (by omega) (by omega)]; omega), if_neg (by rw [decide_eq_false e]; decide), Int.add_zero]) (fun y => by
    unfold sX10_groupsOf_4 sX10_groupsOf_4b
    dsimp only
    rw [if_pos (by decide)]) (by omega), Option.bind_some]
  rfl
/-- flags gathered into a mask -/
theorem zmask {τ : zS} {step : zS × Int32 × Int32 → Option ((zS × Int32 × Int32) ⊕ (zS × Int32))} (n : Nat) (g : Nat → Int) (hn : n ≤ 4) (hf : gflags g) (h0 : ∀ x, n ≤ x → x < 4 → g x = 0) (hs : ∀ i (y : Int32), i < n → step (τ, y, zi (i : Int)) = some (.inl (τ, (if g i = 1 then y ||| (zi 1 <<< (zi (i : Int) &&& 31)) else y), zi (i : Int) + zi 1))) (he : ∀ y, step (τ, y, zi (n : Int)) = some (.inr (τ, y))) : zloop step zfuel (τ, zi 0, zi 0) = some (τ, zi (gmask g)) := by
  obtain ⟨y, hy, hq⟩ := zloop_run (step := step) (s := (τ, zi 0, zi 0)) (fuel := zfuel) n (fun i s => s = (τ, zi (gmask (fun x => if x < i then g x else 0)), zi (i : Int))) (fun y => y = (τ, zi (gmask g)))
    (fun i s hi hs2 => by
      subst hs2
      refine Or.inl ⟨_, hs i _ hi, ?_⟩
      rw [zi_add]
      refine Prod.ext rfl (Prod.ext ?_ rfl)
      dsimp only
      have hfl : gflags (fun x => if x < i then g x else 0) := fun x hx => by
        dsimp only
        split
        · exact hf x hx
        · exact Or.inl rfl
      by_cases e : g i = 1
      · rw [if_pos e, m_or hfl (by omega)]
        refine congrArg zi (gmask_of fun x hx => ?_)
        by_cases e2 : x = i
        · rw [e2, qu_at, if_pos (by omega), e]
        · rw [qu_ne e2]
          by_cases e3 : x < i
          · rw [if_pos e3, if_pos (by omega)]
          · rw [if_neg e3, if_neg (by omega)]
      · rw [if_neg e]
        refine congrArg zi (gmask_of fun x hx => ?_)
        by_cases e2 : x = i
        · rw [e2, if_neg (by omega), if_pos (by omega)]
          rcases hf i (by omega) with q | q
          · exact q.symm
          · exact absurd q e
        · by_cases e3 : x < i
          · rw [if_pos e3, if_pos (by omega)]
          · rw [if_neg e3, if_neg (by omega)])
    (fun s hs2 => by
      subst hs2
      refine ⟨_, he _, ?_⟩
      refine Prod.ext rfl (congrArg zi (gmask_of fun x hx => ?_))
      by_cases e : x < n
      · rw [if_pos e]
      · rw [if_neg e]; exact (h0 x (by omega) hx).symm)
    (zfuel_lt (by omega)) (by
      refine Prod.ext rfl (Prod.ext ?_ rfl)
      refine congrArg zi ?_
      unfold gmask
      simp)
  rw [hy, hq]
theorem rq_blk {i : Nat} (h : RN σ m P M) (hi : i < qmany M) : fX10_blockedOf σ m (zi i) = some (σ, zi (gmask (fun x => M.1 (43 + (4 * i + x))))) := by
  have h4 := qN_many h.2.2.2.1.2.1
  have hP4 := h.2.2.2.1.1.2.1
  have hfl := h.2.2.2.1.2.1.2.2.2.2.2.2.2.2.2.2.2.2.2
  unfold fX10_blockedOf
  rw [zmask P.1 (fun x => M.1 (43 + (4 * i + x))) hP4 (fun x hx => hfl _ (by omega)) (fun x x1 x2 => (h.2.2.2.1.2.2.2.2.2.2.1 i x (by omega) x2 (fun q => by
      have := q.2
      unfold qns at this
      rw [if_pos (by omega)] at this
      omega)).2) (fun s y hs => by
    unfold sX10_blockedOf_4 sX10_blockedOf_4b
    dsimp only
    rw [RN_src h, Option.bind_some, if_neg (zi_nle (by omega) (by omega) (by omega)), RN_now h, Option.bind_some, f_channelIn, Option.bind_some, zi_add, RN_S (43 + (4 * s + i)) h (by omega) (by omega), Option.bind_some, pS_bi (by omega) (by omega)]
    dsimp only
    have := hfl (4 * i + s) (by omega)
    unfold jX10_blockedOf_35_L4
    by_cases e : M.1 (43 + (4 * i + s)) = 1
    · rw [if_pos (by rw [e]), if_pos e]
    · rw [if_neg (by rw [zi_eq (by omega) (by omega) (by omega) (by omega)]; exact e), if_neg e]) (fun y => by
    unfold sX10_blockedOf_4 sX10_blockedOf_4b
    dsimp only
    rw [RN_src h, Option.bind_some, if_pos (zi_yle (by omega) (by omega) (Int.le_refl _))]), Option.bind_some]
theorem rq_blkS {k : Nat} (h : RN σ m P M) (hk : k < P.2.1) : fX10_blockedOfSink σ m (zi k) = some (σ, zi (gmask (fun x => M.1 (43 + (4 * (4 + k) + x))))) := by
  have h4 := qN_many h.2.2.2.1.2.1
  have hP2 := h.2.2.2.1.1.2.2.2.1
  have hfl := h.2.2.2.1.2.1.2.2.2.2.2.2.2.2.2.2.2.2.2
  unfold fX10_blockedOfSink
  rw [zmask (qmany M) (fun x => M.1 (43 + (4 * (4 + k) + x))) h4.2 (fun x hx => hfl _ (by omega)) (fun x x1 x2 => (h.2.2.2.1.2.2.2.2.2.2.1 (4 + k) x (by omega) x2 (fun q => by
      have := q.2
      unfold qns at this
      rw [if_neg (by omega)] at this
      omega)).2) (fun s y hs => by
    unfold sX10_blockedOfSink_4 sX10_blockedOfSink_4b
    dsimp only
    rw [RN_now h, Option.bind_some, RN_many h, Option.bind_some, if_neg (zi_nle (by omega) (by omega) (by omega)), Option.bind_some, f_channelOut, Option.bind_some, zi_add, RN_S (59 + (2 * s + k)) h (by omega) (by omega), Option.bind_some, pS_bo (by omega) (by omega)]
    dsimp only
    have := hfl (4 * (4 + k) + s) (by omega)
    unfold jX10_blockedOfSink_37_L4
    by_cases e : M.1 (43 + (4 * (4 + k) + s)) = 1
    · rw [if_pos (by rw [e]), if_pos e]
    · rw [if_neg (by rw [zi_eq (by omega) (by omega) (by omega) (by omega)]; exact e), if_neg e]) (fun y => by
    unfold sX10_blockedOfSink_4 sX10_blockedOfSink_4b
    dsimp only
    rw [RN_now h, Option.bind_some, RN_many h, Option.bind_some, if_pos (zi_yle (by omega) (by omega) (Int.le_refl _))]), Option.bind_some]
theorem rq_lensA {i : Nat} (h : RN σ m P M) (hi : i < 4) : fX10_recordsTo σ m (zi i) = some (σ, zi (qlens M P.1 (fun s => 4 * i + s))) := by
  have hP4 := h.2.2.2.1.1.2.1
  unfold fX10_recordsTo
  rw [zsum P.1 (fun s => ((M.2.1 (4 * i + s)).length : Int)) 0 (fun s y hs => by
    unfold sX10_recordsTo_4 sX10_recordsTo_4b
    dsimp only
    rw [RN_src h, Option.bind_some, if_neg (zi_nle (by omega) (by omega) (by omega)), f_toInstance (by omega) hi, Option.bind_some]
    dsimp only
    rw [RN_ck h.1, RN_things (4 * i + s) h rfl (by omega), Option.bind_some, zi_add]) (fun y => by
    unfold sX10_recordsTo_4 sX10_recordsTo_4b
    dsimp only
    rw [RN_src h, Option.bind_some, if_pos (zi_yle (by omega) (by omega) (Int.le_refl _))]) (by omega), Option.bind_some]
  dsimp only
  rw [Int.zero_add]
  rfl
theorem rq_lensB {i : Nat} (h : RN σ m P M) (hi : i < 4) : fX10_resultsFrom σ m (zi i) = some (σ, zi (qlens M P.2.1 (fun k => 4 * (4 + k) + i))) := by
  have hP2 := h.2.2.2.1.1.2.2.2.1
  unfold fX10_resultsFrom
  rw [zsum P.2.1 (fun k => ((M.2.1 (4 * (4 + k) + i)).length : Int)) 0 (fun s y hs => by
    unfold sX10_resultsFrom_4 sX10_resultsFrom_4b
    dsimp only
    rw [RN_snk h, Option.bind_some, if_neg (zi_nle (by omega) (by omega) (by omega)), f_toSink (by omega) hi, Option.bind_some]
    dsimp only
    rw [RN_ck h.1, RN_things (4 * (4 + s) + i) h rfl (by omega), Option.bind_some, zi_add]) (fun y => by
    unfold sX10_resultsFrom_4 sX10_resultsFrom_4b
    dsimp only
    rw [RN_snk h, Option.bind_some, if_pos (zi_yle (by omega) (by omega) (Int.le_refl _))]) (by omega), Option.bind_some]
  dsimp only
  rw [Int.zero_add]
  rfl
theorem rq_inst {a c : Int} (h : RN σ m P M) (ha : zin a) (hc : zin c) : fX10_instance σ m (zi a) (zi c) = some (zuI σ m 0 (zi (aInst P M a c).1), zi (aInst P M a c).2) := by
  have h4 := qN_many h.2.2.2.1.2.1
  have bad : jX10_instance_25 σ m (zi a) (zi c) m = some (zuI σ m 0 (zi 1), zi 0) := by
    unfold jX10_instance_25 jX10_instance_26
    rw [RN_ck h.1, r_is0 h.1, Option.bind_some]
    exact if_pos rfl
  unfold fX10_instance aInst
  rw [RN_ck h.1, r_isInst h ha, Option.bind_some]
  dsimp only
  by_cases k1 : 0 ≤ a ∧ a < qmany M
  · rw [decide_eq_true k1, if_neg zt, f_in (l := 0) (h := 4) (l_zi hc) rfl rfl, Option.bind_some]
    dsimp only
    by_cases k2 : 0 ≤ c ∧ c ≤ 4
    · rw [decide_eq_true k2, if_neg zt, if_pos ⟨k1, k2⟩]
      obtain ⟨s, rfl⟩ := nat_of k1.1
      have h2 := RN_tl (v := zi 0) h
      unfold jX10_instance_26
      rw [RN_ck h.1, r_is1 h.1, Option.bind_some]
      dsimp only
      rw [if_neg z10]
      have hc4 : c = 0 ∨ c = 1 ∨ c = 2 ∨ c = 3 ∨ c = 4 := by omega
      rcases hc4 with rfl | rfl | rfl | rfl | rfl
      · rw [if_pos rfl, RN_ck h2.1, rq_groups h2 (by omega), Option.bind_some]; rfl
      · rw [if_neg (by decide), if_pos rfl, RN_now h2, Option.bind_some, zi_add, RN_lo (33 + s) h2 (by omega) (by omega), Option.bind_some]; rfl
      · rw [if_neg (by decide), if_neg (by decide), if_pos rfl, RN_ck h2.1, rq_blk h2 (by omega), Option.bind_some]; rfl
      · rw [if_neg (by decide), if_neg (by decide), if_neg (by decide), if_pos rfl, RN_ck h2.1, rq_lensA h2 (by omega), Option.bind_some]; rfl
      · rw [if_neg (by decide), if_neg (by decide), if_neg (by decide), if_neg (by decide), RN_ck h2.1, rq_lensB h2 (by omega), Option.bind_some]; rfl
    · rw [decide_eq_false k2, if_pos zf, if_neg (fun q => k2 q.2)]
      exact bad
  · rw [decide_eq_false k1, if_pos zf, if_neg (fun q => k1 q.1)]
    exact bad
theorem pR_len {c : Nat} (hc : 24 ≤ c) : (pR P M c).length = (M.2.1 c).length := by rw [pR_ls hc, List.length_map]
theorem rq_sink {a c : Int} (h : RN σ m P M) (ha : zin a) (hc : zin c) : fX10_sink σ m (zi a) (zi c) = some (zuI σ m 0 (zi (aSink P M a c).1), zi (aSink P M a c).2) := by
  have hP2 := h.2.2.2.1.1.2.2.2.1
  have bad : jX10_sink_25 σ m (zi a) (zi c) m = some (zuI σ m 0 (zi 1), zi 0) := by
    unfold jX10_sink_25 jX10_sink_26
    rw [RN_ck h.1, r_is0 h.1, Option.bind_some]
    exact if_pos rfl
  unfold fX10_sink aSink
  rw [RN_ck h.1, r_isSink h ha, Option.bind_some]
  dsimp only
  by_cases k1 : 0 ≤ a ∧ a < P.2.1
  · rw [decide_eq_true k1, if_neg zt, f_in (l := 0) (h := 3) (l_zi hc) rfl rfl, Option.bind_some]
    dsimp only
    by_cases k2 : 0 ≤ c ∧ c ≤ 3
    · rw [decide_eq_true k2, if_neg zt, if_pos ⟨k1, k2⟩]
      obtain ⟨s, rfl⟩ := nat_of k1.1
      have h2 := RN_tl (v := zi 0) h
      unfold jX10_sink_26
      rw [RN_ck h.1, r_is1 h.1, Option.bind_some]
      dsimp only
      rw [if_neg z10]
      have hc4 : c = 0 ∨ c = 1 ∨ c = 2 ∨ c = 3 := by omega
      rcases hc4 with rfl | rfl | rfl | rfl
      · rw [if_pos rfl, RN_now h2, Option.bind_some, f_open (by omega), Option.bind_some]
        dsimp only
        rw [RN_len (24 + s) h2 rfl (by omega), Option.bind_some, pR_len (by omega)]; rfl
      · rw [if_neg (by decide), if_pos rfl, RN_now h2, Option.bind_some, f_closed (by omega), Option.bind_some]
        dsimp only
        rw [RN_len (26 + s) h2 rfl (by omega), Option.bind_some, pR_len (by omega)]; rfl
      · rw [if_neg (by decide), if_neg (by decide), if_pos rfl, RN_now h2, Option.bind_some, f_shown (by omega), Option.bind_some]
        dsimp only
        rw [RN_len (28 + s) h2 rfl (by omega), Option.bind_some, pR_len (by omega)]; rfl
      · rw [if_neg (by decide), if_neg (by decide), if_neg (by decide), RN_ck h2.1, rq_blkS h2 (by omega), Option.bind_some]; rfl
    · rw [decide_eq_false k2, if_pos zf, if_neg (fun q => k2 q.2)]
      exact bad
  · rw [decide_eq_false k1, if_pos zf, if_neg (fun q => k1 q.1)]
    exact bad
theorem qen_div {c n : Nat} (hc : 16 ≤ c) (hn : n < 800) : zi (qen P c n) / zi 20000 = zi (qkey P n) ∧ zi (qen P c n) - zi (qen P c n) / zi 20000 * zi 20000 = zi (qres P n) := by
  have hr := qres_lt (P := P) hn
  have hk := qkey_lt (P := P) hn
  unfold qen
  rw [if_neg (by omega)]
  have b : ((20000 * qkey P n + qres P n : Nat) : Int) < 2147483648 := by omega
  refine ⟨?_, ?_⟩
  · rw [zi_div (by omega) b (by omega) (by omega)]
    congr 1
    omega
  · rw [zi_mod (by omega) b (by omega) (by omega)]
    congr 1
    omega
theorem pR_get {c i : Nat} (hc : 24 ≤ c) (hi : i < (M.2.1 c).length) : (pR P M c).getD i 0 = qen P (qch c) ((M.2.1 c).getD i 0) := by
  rw [pR_ls hc, List.getD_eq_getElem?_getD, List.getElem?_map, List.getElem?_eq_getElem hi, List.getD_eq_getElem?_getD, List.getElem?_eq_getElem hi]
  rfl
theorem rq_shown {a i c : Int} (h : RN σ m P M) (ha : zin a) (hi : zin i) (hc : zin c) : fX10_shown σ m (zi a) (zi i) (zi c) = some (zuI σ m 0 (zi (aShown P M a i c).1), zi (aShown P M a i c).2) := by
  have hP2 := h.2.2.2.1.1.2.2.2.1
  have bad : jX10_shown_23 σ m (zi a) (zi i) (zi c) m = some (zuI σ m 0 (zi 1), zi 0) := by
    unfold jX10_shown_23 jX10_shown_24
    rw [RN_ck h.1, r_is0 h.1, Option.bind_some]
    exact if_pos rfl
  unfold fX10_shown aShown
  rw [RN_ck h.1, r_isSink h ha, Option.bind_some]
  dsimp only
  by_cases k1 : 0 ≤ a ∧ a < P.2.1
  · rw [decide_eq_true k1, if_neg zt, f_in (l := 0) (h := 1) (l_zi hc) rfl rfl, Option.bind_some]
    dsimp only
    by_cases k2 : 0 ≤ c ∧ c ≤ 1
    · rw [decide_eq_true k2, if_neg zt, if_pos ⟨k1, k2⟩]
      obtain ⟨s, rfl⟩ := nat_of k1.1
      rw [Int.toNat_natCast]
      have h2 := RN_tl (v := zi 0) h
      have hlen := (qI_len h.2.2.2 (c := 28 + s) (by omega)).1
      unfold jX10_shown_24
      rw [RN_ck h.1, r_is1 h.1, Option.bind_some]
      dsimp only
      rw [if_neg z10, RN_now h2, Option.bind_some, f_shown (by omega), Option.bind_some]
      dsimp only
      rw [RN_len (28 + s) h2 rfl (by omega), Option.bind_some, pR_len (by omega), zi_sub, f_in (l := 0) (h := ((M.2.1 (28 + s)).length : Int) - 1) (l_zi hi) rfl (l_zi ⟨by omega, by omega⟩), Option.bind_some]
      dsimp only
      rw [RN_ck h2.1, r_may h2.1, Option.bind_some, zuI_I]
      dsimp only
      by_cases k3 : 0 ≤ i ∧ i < (M.2.1 (28 + s)).length
      · rw [decide_eq_true (show 0 ≤ i ∧ i ≤ ((M.2.1 (28 + s)).length : Int) - 1 by omega), if_neg zt, if_pos k3, if_pos rfl]
        obtain ⟨j, rfl⟩ := nat_of k3.1
        rw [Int.toNat_natCast]
        have hrec := qI_rec h.2.2.2 (c := 28 + s) (by omega) (getD_mem (L := M.2.1 (28 + s)) (i := j) (by omega))
        rw [f_shown (by omega), Option.bind_some]
        dsimp only
        rw [RN_ck h2.1, RN_at (28 + s) j h2 rfl (by omega) rfl (by rw [pR_len (by omega)]; omega), Option.bind_some, pR_get (by omega) (by omega)]
        dsimp only
        obtain ⟨q1, q2⟩ := qen_div (P := P) (c := qch (28 + s)) (n := (M.2.1 (28 + s)).getD j 0) (by unfold qch; rw [if_pos (by omega)]; omega) hrec.1
        have hc2 : c = 0 ∨ c = 1 := by omega
        rcases hc2 with rfl | rfl
        · rw [if_pos rfl, q1]; rfl
        · rw [if_neg z10, q2]; rfl
      · rw [decide_eq_false (show ¬ (0 ≤ i ∧ i ≤ ((M.2.1 (28 + s)).length : Int) - 1) by omega), if_pos zf, if_neg k3, if_neg (by decide)]
    · rw [decide_eq_false k2, if_pos zf, if_neg (fun q => k2 q.2)]
      exact bad
  · rw [decide_eq_false k1, if_pos zf, if_neg (fun q => k1 q.1)]
    exact bad
theorem rq_in {a i : Int} {d : Bool} (h : RN σ m P M) (ha : zin a) (hi : zin i) : fX10_inChannel σ m (zi a) (zi i) (zb d) = some (zuI σ m 0 (zi (aIn P M a i d).1), zi (aIn P M a i d).2) := by
  have h4 := qN_many h.2.2.2.1.2.1
  have hP4 := h.2.2.2.1.1.2.1
  have bad : jX10_inChannel_21 σ m (zi a) (zi i) (zb d) m = some (zuI σ m 0 (zi 1), zi 0) := by
    unfold jX10_inChannel_21 jX10_inChannel_22
    rw [RN_ck h.1, r_is0 h.1, Option.bind_some]
    exact if_pos rfl
  unfold fX10_inChannel aIn
  rw [RN_ck h.1, r_isSource h ha, Option.bind_some]
  dsimp only
  by_cases k1 : 0 ≤ a ∧ a < P.1
  · rw [decide_eq_true k1, if_neg zt, RN_ck h.1, r_isInst h hi, Option.bind_some]
    dsimp only
    by_cases k2 : 0 ≤ i ∧ i < qmany M
    · rw [decide_eq_true k2, if_neg zt, if_pos ⟨k1, k2⟩]
      obtain ⟨s, rfl⟩ := nat_of k1.1
      obtain ⟨t, rfl⟩ := nat_of k2.1
      have h2 := RN_tl (v := zi 0) h
      unfold jX10_inChannel_22
      rw [RN_ck h.1, r_is1 h.1, Option.bind_some]
      dsimp only
      rw [if_neg z10]
      cases d with
      | false =>
        rw [if_pos zf, f_toInstance (by omega) (by omega), Option.bind_some]
        dsimp only
        rw [RN_ck h2.1, RN_things (4 * t + s) h2 rfl (by omega), Option.bind_some]; rfl
      | true =>
        rw [if_neg zt, f_toInstance (by omega) (by omega), Option.bind_some]
        dsimp only
        rw [RN_ck h2.1, RN_bars (4 * t + s) h2 rfl (by omega), Option.bind_some]; rfl
    · rw [decide_eq_false k2, if_pos zf, if_neg (fun q => k2 q.2)]
      exact bad
  · rw [decide_eq_false k1, if_pos zf, if_neg (fun q => k1 q.1)]
    exact bad
theorem rq_out {a i : Int} {d : Bool} (h : RN σ m P M) (ha : zin a) (hi : zin i) : fX10_outChannel σ m (zi i) (zi a) (zb d) = some (zuI σ m 0 (zi (aOut P M i a d).1), zi (aOut P M i a d).2) := by
  have h4 := qN_many h.2.2.2.1.2.1
  have hP2 := h.2.2.2.1.1.2.2.2.1
  have bad : jX10_outChannel_21 σ m (zi i) (zi a) (zb d) m = some (zuI σ m 0 (zi 1), zi 0) := by
    unfold jX10_outChannel_21 jX10_outChannel_22
    rw [RN_ck h.1, r_is0 h.1, Option.bind_some]
    exact if_pos rfl
  unfold fX10_outChannel aOut
  rw [RN_ck h.1, r_isInst h hi, Option.bind_some]
  dsimp only
  by_cases k2 : 0 ≤ i ∧ i < qmany M
  · rw [decide_eq_true k2, if_neg zt, RN_ck h.1, r_isSink h ha, Option.bind_some]
    dsimp only
    by_cases k1 : 0 ≤ a ∧ a < P.2.1
    · rw [decide_eq_true k1, if_neg zt, if_pos ⟨k2, k1⟩]
      obtain ⟨s, rfl⟩ := nat_of k1.1
      obtain ⟨t, rfl⟩ := nat_of k2.1
      have h2 := RN_tl (v := zi 0) h
      unfold jX10_outChannel_22
      rw [RN_ck h.1, r_is1 h.1, Option.bind_some]
      dsimp only
      rw [if_neg z10]
      cases d with
      | false =>
        rw [if_pos zf, f_toSink (by omega) (by omega), Option.bind_some]
        dsimp only
        rw [RN_ck h2.1, RN_things (4 * (4 + s) + t) h2 rfl (by omega), Option.bind_some]; rfl
      | true =>
        rw [if_neg zt, f_toSink (by omega) (by omega), Option.bind_some]
        dsimp only
        rw [RN_ck h2.1, RN_bars (4 * (4 + s) + t) h2 rfl (by omega), Option.bind_some]; rfl
    · rw [decide_eq_false k1, if_pos zf, if_neg (fun q => k1 q.2)]
      exact bad
  · rw [decide_eq_false k2, if_pos zf, if_neg (fun q => k2 q.1)]
    exact bad
end RQ
