/-! THE REFERENCE'S CHANGES AND FORECASTS. -/
section RCh
variable {σ υ : zS} {m : Nat} {A B : Nat → Int32} {P : qP} {M N M0 : qM} {H : List qM} {S : Option qM} {nm : Nat → List Int32} {tx ou : List Int32} {er ea z : Int}
/-- many ticks -/
theorem r_ticks {step : zS × Int32 → Option ((zS × Int32) ⊕ zS)} (n : Nat) (h : rsh σ m) (hs : rset σ m P) (hI : qI P M) (hB : KB z M) (hz : z + n < 900000000) (hA : RM A P M) (hn : n < 100000)
    (hst : ∀ i B, i < n → step (rput σ m B, zi (i : Int)) = (fX10_ticks (rput σ m B) m).bind fun c => some (.inl (c, zi (i : Int) + zi 1)))
    (he : ∀ B, step (rput σ m B, zi (n : Int)) = some (.inr (rput σ m B))) : ∃ B, zloop step zfuel (rput σ m A, zi 0) = some (rput σ m B) ∧ RM B P (qit P n M) := by
  obtain ⟨y, hy, B, rfl, hB2⟩ := zloop_run (step := step) (s := (rput σ m A, zi 0)) (fuel := zfuel) n
    (fun i s => ∃ B, s = (rput σ m B, zi (i : Int)) ∧ RM B P (qit P i M)) (fun y => ∃ B, y = rput σ m B ∧ RM B P (qit P n M))
    (fun i s hi hs2 => by
      obtain ⟨B, rfl, hB3⟩ := hs2
      obtain ⟨i1, i2⟩ := qI_it hI hB i
      obtain ⟨C, e, hC⟩ := ra_ticks h hs i1 hB3 ⟨i2.1.1, by have := i2.1.2; omega⟩ i2.2.1.1
      exact Or.inl ⟨_, by rw [hst i B hi, e, Option.bind_some], C, by rw [zi_add]; rfl, hC⟩)
    (fun s hs2 => by
      obtain ⟨B, rfl, hB3⟩ := hs2
      exact ⟨_, he B, B, rfl, hB3⟩)
    (zfuel_lt (by omega)) ⟨A, rfl, hA⟩
  exact ⟨B, hy, hB2⟩
theorem rc_open (h : RI σ m P nm M H S tx er ea ou) (h0 : σ.2.1 m 0 = zi 0) : ∃ υ, fX10_starts σ m = some υ ∧ RI υ m P nm M H S tx er ea ou ∧ RM (υ.2.1 (m + 6)) P M ∧ zfr m (m + 15) σ υ ∧ υ.2.1 m 0 = zi 0 := by
  refine ⟨_, r_starts h.1.1, RI_rp h (o := 6) (by omega), ?_, zfr_wide zfr_rp (by omega) (by omega), by rw [rp_ne (by omega)]; exact h0⟩
  rw [rp_at]
  exact RM_eq h.1.2.2.1 (fun k hk => if_pos hk)
theorem rc_close {v : Int32} (h : RI υ m P nm M H S tx er ea ou) (ha : RM (υ.2.1 (m + 6)) P M0) (h0 : υ.2.1 m 0 = zi 0) (hB : RM B P N) (hN : qI P N) : ∃ τ, fX10_done (rput υ m B) m v = some (τ, v) ∧ RI τ m P nm N ((M0 :: H).take 6) S tx er ea ou ∧ zfr m (m + 15) υ τ ∧ τ.2.1 m 0 = zi 0 := by
  obtain ⟨τ, e, k1, k2, k3⟩ := r_done (v := v) (RI_now h hB hN) (M0 := M0) (by rw [rput_ne (by omega)]; exact ha)
  refine ⟨τ, e, k1, zfr_trans (show zfr m (m + 15) υ (rput υ m B) from ⟨rfl, fun a ha2 => ⟨rput_ne (by omega), rfl, rfl⟩⟩) k2, ?_⟩
  rw [k3, rput_ne (by omega)]
  exact h0
theorem told_0 {v : Int32} : (zuI σ m 0 v).2.1 m 0 = v := by rw [zuI_rd, if_pos rfl]
theorem zfr_tl {v : Int32} : zfr m (m + 15) σ (zuI σ m 0 v) := zfr_wide zfr_I (by omega) (by omega)
theorem rd_own (h : RI σ m P nm M H S tx er ea ou) : rput σ m (σ.2.1 (m + 4)) = σ := rput_self
theorem rc_run {t : Int} (h : RI σ m P nm M H S tx er ea ou) (hQ : QI z P M H S) (hz : z < 800000000) (ht : zin t) : (aTicks t = true → ∃ τ, fX10_run σ m (zi t) = some (τ, zi ((qit P t.toNat M).1 6 - M.1 6)) ∧ RI τ m P nm (qit P t.toNat M) ((M :: H).take 6) S tx er ea ou ∧ zfr m (m + 15) σ τ ∧ τ.2.1 m 0 = zi 0) ∧ (aTicks t = false → fX10_run σ m (zi t) = some (zuI σ m 0 (zi 1), zi 0)) := by
  have hs := h.1.1
  refine ⟨fun k => ?_, fun k => ?_⟩
  · have h1 := RI_tl (v := zi 0) h
    obtain ⟨υ, e1, hυ, ha, hf, h0⟩ := rc_open h1 told_0
    have k' := k
    unfold aTicks at k
    rw [decide_eq_true_iff] at k
    obtain ⟨n, rfl⟩ := nat_of (show 0 ≤ t from by omega)
    rw [Int.toNat_natCast]
    obtain ⟨B, eB, hB⟩ := r_ticks (step := sX10_run_27 m (zi (n : Int)) (zi (M.1 6))) n hυ.1.1 hυ.1.2.1 hυ.1.2.2.2 hQ.1.2 (by omega) hυ.1.2.2.1 (by omega) (fun i B hi => by
      unfold sX10_run_27 sX10_run_27b
      dsimp only
      rw [if_neg (zi_nle (by omega) (by omega) (by omega)), rd_ck hυ.1.1]) (fun B => by
      unfold sX10_run_27 sX10_run_27b
      dsimp only
      rw [if_pos (zi_yle (by omega) (by omega) (Int.le_refl _))])
    rw [rput_self] at eB
    have hIn := (qI_it hυ.1.2.2.2 hQ.1.2 n).1
    obtain ⟨τ, e2, k1, k2, k3⟩ := rc_close (v := zi ((qit P n M).1 6 - M.1 6)) hυ ha h0 hB hIn
    have hR2 := (RI_now hυ hB hIn).1
    refine ⟨τ, ?_, k1, zfr_trans zfr_tl (zfr_trans hf k2), k3⟩
    unfold fX10_run
    rw [r_isTicks ht, Option.bind_some]
    dsimp only
    rw [k', RN_ck hs, r_is hs, Option.bind_some]
    dsimp only
    rw [if_neg zt, if_pos (show true = true from rfl), RN_ck h1.1.1, e1, Option.bind_some, RN_now hυ.1, Option.bind_some, L_of (x := 6) 6 hυ.1 rfl (by omega), Option.bind_some, eB, Option.bind_some, RN_now hR2, Option.bind_some, L_of (x := 6) 6 hR2 rfl (by omega), Option.bind_some, zi_sub, RN_ck hR2.1, e2, Option.bind_some]
  · unfold fX10_run
    rw [r_isTicks ht, Option.bind_some]
    dsimp only
    rw [k, RN_ck hs, r_is hs, Option.bind_some]
    exact if_pos zf
theorem rc_begin {d : Bool} (h : RI σ m P nm M H S tx er ea ou) (hQ : QI z P M H S) : (M.1 67 ≠ 1 → ∃ τ, fX10_begin σ m (zb d) = some (τ, zi (M.1 5 + 1)) ∧ RI τ m P nm (qbegin (if d then 1 else 0) M) ((M :: H).take 6) S tx er ea ou ∧ zfr m (m + 15) σ τ ∧ τ.2.1 m 0 = zi 0) ∧ (M.1 67 = 1 → fX10_begin σ m (zb d) = some (zuI σ m 0 (zi 1), zi 0)) := by
  have hs := h.1.1
  have hN := h.1.2.2.2.1.2.1
  refine ⟨fun k => ?_, fun k => ?_⟩
  · have k0 : M.1 67 = 0 := by
      rcases hN.2.2.2.2.2.2.2.1 with q | q
      · exact q
      · exact absurd q k
    have h1 := RI_tl (v := zi 0) h
    obtain ⟨υ, e1, hυ, ha, hf, h0⟩ := rc_open h1 told_0
    have hd : (if d then (1 : Int) else 0) = 0 ∨ (if d then (1 : Int) else 0) = 1 := by cases d <;> simp
    obtain ⟨B, eB, hB⟩ := ra_begins (o := if d then 1 else 0) hυ.1.1 hυ.1.2.2.1
    rw [rput_self] at eB
    have hIn := qI_begin hυ.1.2.2.2 k0 hd ⟨hQ.1.2.1.1, hQ.1.2.2.1.1⟩
    obtain ⟨τ, e2, k1, k2, k3⟩ := rc_close (v := zi (M.1 5 + 1)) hυ ha h0 hB hIn
    have hR2 := (RI_now hυ hB hIn).1
    refine ⟨τ, ?_, k1, zfr_trans zfr_tl (zfr_trans hf k2), k3⟩
    have e38 : jX10_begin_38 υ m (zi (if d then 1 else 0)) m = some (τ, zi (M.1 5 + 1)) := by
      unfold jX10_begin_38
      rw [RN_ck hυ.1.1, eB, Option.bind_some, RN_now hR2, Option.bind_some, L_of (x := 5) 5 hR2 rfl (by omega), Option.bind_some, RN_ck hR2.1, show (qbegin (if d then 1 else 0) M).1 5 = M.1 5 + 1 from rfl, e2, Option.bind_some]
    unfold fX10_begin
    rw [RN_now h.1, Option.bind_some, L_of (x := 67) 67 h.1 rfl (by omega), Option.bind_some, k0, if_pos rfl]
    unfold jX10_begin_16
    rw [RN_ck hs, r_is1 hs, Option.bind_some]
    dsimp only
    rw [if_neg z10, RN_ck h1.1.1, e1, Option.bind_some]
    cases d with
    | true => rw [if_neg zt]; exact e38
    | false => rw [if_pos zf]; exact e38
  · unfold fX10_begin
    rw [RN_now h.1, Option.bind_some, L_of (x := 67) 67 h.1 rfl (by omega), Option.bind_some, k, if_neg z10]
    unfold jX10_begin_16
    rw [RN_ck hs, r_is0 hs, Option.bind_some]
    exact if_pos rfl
theorem rc_fail (h : RI σ m P nm M H S tx er ea ou) : ∃ τ, fX10_fail σ m = some (τ, zi (qrisk P M)) ∧ RI τ m P nm (qfail P M) ((M :: H).take 6) S tx er ea ou ∧ zfr m (m + 15) σ τ ∧ τ.2.1 m 0 = zi 0 := by
  have hs := h.1.1
  have h1 := RI_tl (v := zi 0) h
  obtain ⟨υ, e1, hυ, ha, hf, h0⟩ := rc_open h1 told_0
  obtain ⟨B, eB, hB⟩ := ra_fails hυ.1.1 hυ.1.2.1 hυ.1.2.2.2 hυ.1.2.2.1
  rw [rput_self] at eB
  have hIn := qI_fail hυ.1.2.2.2
  obtain ⟨τ, e2, k1, k2, k3⟩ := rc_close (v := zi (qrisk P M)) hυ ha h0 hB hIn
  have hR2 := (RI_now hυ hB hIn).1
  refine ⟨τ, ?_, k1, zfr_trans zfr_tl (zfr_trans hf k2), k3⟩
  unfold fX10_fail
  rw [r_tl hs, Option.bind_some, RN_ck h1.1.1, e1, Option.bind_some, RN_ck hυ.1.1, rq_risk0 hυ.1, Option.bind_some]
  dsimp only
  rw [RN_ck hυ.1.1, eB, Option.bind_some, RN_ck hR2.1, e2, Option.bind_some]
theorem rc_resc {n : Int} (h : RI σ m P nm M H S tx er ea ou) (hn : zin n) : (1 ≤ n ∧ n ≤ 4 → ∃ τ, fX10_rescale σ m (zi n) = some (τ, zi (qmoved (qmany M) n.toNat)) ∧ RI τ m P nm (qrescale P n.toNat M) ((M :: H).take 6) S tx er ea ou ∧ zfr m (m + 15) σ τ ∧ τ.2.1 m 0 = zi 0) ∧ (¬ (1 ≤ n ∧ n ≤ 4) → fX10_rescale σ m (zi n) = some (zuI σ m 0 (zi 1), zi 0)) := by
  have hs := h.1.1
  have eM : fX10_isMany σ (zi n) = some (σ, zb (decide (1 ≤ n ∧ n ≤ 4))) := by
    unfold fX10_isMany
    rw [f_in (l := 1) (h := 4) (l_zi hn) rfl rfl, Option.bind_some, zrZ_b]
  refine ⟨fun k => ?_, fun k => ?_⟩
  · obtain ⟨t, rfl⟩ := nat_of (show 0 ≤ n from by omega)
    rw [Int.toNat_natCast]
    have h1 := RI_tl (v := zi 0) h
    obtain ⟨υ, e1, hυ, ha, hf, h0⟩ := rc_open h1 told_0
    obtain ⟨B, eB, hB⟩ := ra_rescales (n := t) hυ.1.1 hυ.1.2.1 hυ.1.2.2.2 hυ.1.2.2.1 (by omega)
    rw [rput_self] at eB
    have hIn := qI_rescale (m := t) hυ.1.2.2.2 (by omega)
    obtain ⟨τ, e2, k1, k2, k3⟩ := rc_close (v := zi (qmoved (qmany M) t)) hυ ha h0 hB hIn
    have hR2 := (RI_now hυ hB hIn).1
    refine ⟨τ, ?_, k1, zfr_trans zfr_tl (zfr_trans hf k2), k3⟩
    unfold fX10_rescale
    rw [eM, Option.bind_some]
    dsimp only
    rw [decide_eq_true k, RN_ck hs, r_is hs, Option.bind_some]
    dsimp only
    rw [if_neg zt, if_pos (show true = true from rfl), RN_ck h1.1.1, e1, Option.bind_some, RN_ck hυ.1.1, eB, Option.bind_some]
    dsimp only
    rw [RN_ck hR2.1, e2, Option.bind_some]
  · unfold fX10_rescale
    rw [eM, Option.bind_some]
    dsimp only
    rw [decide_eq_false k, RN_ck hs, r_is hs, Option.bind_some]
    exact if_pos zf
theorem RM_lo {k : Nat} {v : Int} (hA : RM A P M) (hk : k < 37 ∨ 67 ≤ k ∧ k < 74 ∨ 98 ≤ k ∧ k < 144) : RM (qu A k (zi v)) P (qS M k v) := RM_set (k0 := k) (j := k) (v := v) (w := v) hA (by omega) (ri_lo (by omega)) (by rw [if_neg (by omega)]; omega)
/-- a number is changed -/
theorem rc_changes {k : Nat} {x v : Int} (h : RI σ m P nm M H S tx er ea ou) (h0 : σ.2.1 m 0 = zi 0) (hx : x = k) (hk : k < 37) (hI : qI P (qS M k v)) : ∃ τ, fX10_changes σ m (zi x) (zi v) = some (τ, zi (M.1 k)) ∧ RI τ m P nm (qS M k v) ((M :: H).take 6) S tx er ea ou ∧ zfr m (m + 15) σ τ ∧ τ.2.1 m 0 = zi 0 := by
  obtain ⟨υ, e1, hυ, ha, hf, h1⟩ := rc_open h h0
  have hw := wr_A (σ := υ) (m := m) (A := υ.2.1 (m + 4)) (x := x) (v := zi v) k hυ.1.1 hx (by omega)
  rw [rput_self] at hw
  obtain ⟨τ, e2, k1, k2, k3⟩ := rc_close (v := zi (M.1 k)) hυ ha h1 (RM_lo (k := k) (v := v) hυ.1.2.2.1 (by omega)) hI
  refine ⟨τ, ?_, k1, zfr_trans hf k2, k3⟩
  unfold fX10_changes
  rw [RN_ck h.1.1, e1, Option.bind_some, RN_now hυ.1, Option.bind_some, L_of k hυ.1 hx (by omega), Option.bind_some, Option.bind_some, hw, Option.bind_some, RN_ck (show rsh (rput υ m _) m from hυ.1.1), e2, Option.bind_some]
theorem rc_room {r : Int} (h : RI σ m P nm M H S tx er ea ou) (hr : zin r) : (1 ≤ r ∧ r ≤ 9 → ∃ τ, fX10_setRoom σ m (zi r) = some (τ, zi (M.1 2)) ∧ RI τ m P nm (qS M 2 r) ((M :: H).take 6) S tx er ea ou ∧ zfr m (m + 15) σ τ ∧ τ.2.1 m 0 = zi 0) ∧ (¬ (1 ≤ r ∧ r ≤ 9) → fX10_setRoom σ m (zi r) = some (zuI σ m 0 (zi 1), zi 0)) := by
  have hs := h.1.1
  unfold fX10_setRoom
  rw [f_in (l := 1) (h := 9) (l_zi hr) rfl rfl, Option.bind_some]
  dsimp only
  rw [RN_ck hs, r_is hs, Option.bind_some]
  dsimp only
  refine ⟨fun k => ?_, fun k => ?_⟩
  · rw [decide_eq_true k, if_neg zt, if_pos (show true = true from rfl)]
    have h1 := RI_tl (v := zi 0) h
    obtain ⟨τ, e, k1, k2, k3⟩ := rc_changes (k := 2) (x := 2) (v := r) h1 told_0 rfl (by omega) (qI_num h.1.2.2.2 (Or.inr (Or.inl ⟨rfl, k.1, k.2⟩)))
    refine ⟨τ, ?_, k1, zfr_trans zfr_tl k2, k3⟩
    rw [RN_ck h1.1.1, e, Option.bind_some]
  · rw [decide_eq_false k]
    exact if_pos zf
theorem rc_lag {a r : Int} (h : RI σ m P nm M H S tx er ea ou) (ha : zin a) (hr : zin r) : ((0 ≤ a ∧ a < P.1) ∧ 0 ≤ r ∧ r ≤ 9 → ∃ τ, fX10_setLag σ m (zi a) (zi r) = some (τ, zi (M.1 (9 + a.toNat))) ∧ RI τ m P nm (qS M (9 + a.toNat) r) ((M :: H).take 6) S tx er ea ou ∧ zfr m (m + 15) σ τ ∧ τ.2.1 m 0 = zi 0) ∧ (¬ (0 ≤ a ∧ a < P.1) → fX10_setLag σ m (zi a) (zi r) = some (zuI σ m 0 (zi 1), zi 0)) ∧ ((0 ≤ a ∧ a < P.1) ∧ ¬ (0 ≤ r ∧ r ≤ 9) → fX10_setLag σ m (zi a) (zi r) = some (zuI σ m 0 (zi 2), zi 0)) := by
  have hs := h.1.1
  have hP4 := h.1.2.2.2.1.1.2.1
  have h1 := RI_tl (v := zi 0) h
  unfold fX10_setLag
  rw [RN_ck hs, r_isSource h.1 ha, Option.bind_some]
  dsimp only
  rw [RN_ck hs, r_is hs, Option.bind_some]
  dsimp only
  refine ⟨fun k => ?_, fun k => ?_, fun k => ?_⟩
  · rw [decide_eq_true k.1, if_neg zt, if_pos (show true = true from rfl), f_in (l := 0) (h := 9) (l_zi hr) rfl rfl, Option.bind_some]
    dsimp only
    rw [RN_ck h1.1.1, r_may h1.1.1, Option.bind_some, zuI_I]
    dsimp only
    rw [decide_eq_true k.2, if_neg zt, if_pos (show true = true from rfl)]
    obtain ⟨s, rfl⟩ := nat_of k.1.1
    rw [Int.toNat_natCast]
    obtain ⟨τ, e, k1, k2, k3⟩ := rc_changes (k := 9 + s) (x := 9 + (s : Int)) (v := r) h1 told_0 (by omega) (by omega) (qI_num h.1.2.2.2 (Or.inr (Or.inr (Or.inr (Or.inr (Or.inl ⟨by omega, by omega, k.2.1, k.2.2⟩))))))
    refine ⟨τ, ?_, k1, zfr_trans zfr_tl k2, k3⟩
    rw [RN_ck h1.1.1, zi_add, e, Option.bind_some]
  · rw [decide_eq_false k]
    exact if_pos zf
  · rw [decide_eq_true k.1, if_neg zt, if_pos (show true = true from rfl), f_in (l := 0) (h := 9) (l_zi hr) rfl rfl, Option.bind_some]
    dsimp only
    rw [RN_ck h1.1.1, r_may h1.1.1, Option.bind_some, zuI_I]
    dsimp only
    rw [decide_eq_false k.2]
    exact if_pos zf
theorem rc_every {r : Int} {d : Bool} (h : RI σ m P nm M H S tx er ea ou) (hr : zin r) : (0 ≤ r ∧ r ≤ 99 → ∃ τ, fX10_setEvery σ m (zi r) (zb d) = some (τ, zi (M.1 3)) ∧ RI τ m P nm (qS (qS M 3 r) 4 (if d then 1 else 0)) ((M :: H).take 6) S tx er ea ou ∧ zfr m (m + 15) σ τ ∧ τ.2.1 m 0 = zi 0) ∧ (¬ (0 ≤ r ∧ r ≤ 99) → fX10_setEvery σ m (zi r) (zb d) = some (zuI σ m 0 (zi 1), zi 0)) := by
  have hs := h.1.1
  unfold fX10_setEvery
  rw [f_in (l := 0) (h := 99) (l_zi hr) rfl rfl, Option.bind_some]
  dsimp only
  rw [RN_ck hs, r_is hs, Option.bind_some]
  dsimp only
  refine ⟨fun k => ?_, fun k => ?_⟩
  · rw [decide_eq_true k, if_neg zt, if_pos (show true = true from rfl)]
    have h1 := RI_tl (v := zi 0) h
    have hI1 := qI_num h.1.2.2.2 (k := 3) (v := r) (Or.inr (Or.inr (Or.inl ⟨rfl, k.1, k.2⟩)))
    obtain ⟨τ, e, k1, k2, k3⟩ := rc_changes (k := 3) (x := 3) (v := r) h1 told_0 rfl (by omega) hI1
    have hd : (if d then (1 : Int) else 0) = 0 ∨ (if d then (1 : Int) else 0) = 1 := by cases d <;> simp
    have hI2 := qI_num hI1 (k := 4) (v := if d then 1 else 0) (Or.inr (Or.inr (Or.inr (Or.inl ⟨rfl, hd⟩))))
    have hw := wr_A (σ := τ) (m := m) (A := τ.2.1 (m + 4)) (x := 4) (v := zi (if d then 1 else 0)) 4 k1.1.1 rfl (by omega)
    rw [rput_self] at hw
    refine ⟨_, ?_, RI_now k1 (RM_lo (k := 4) (v := if d then 1 else 0) k1.1.2.2.1 (by omega)) hI2, zfr_trans (zfr_trans zfr_tl k2) ⟨rfl, fun a ha2 => ⟨rput_ne (by omega), rfl, rfl⟩⟩, by rw [rput_ne (by omega)]; exact k3⟩
    rw [RN_ck h1.1.1, e, Option.bind_some, RN_now k1.1, Option.bind_some]
    dsimp only
    cases d with
    | true =>
      rw [if_neg zt]
      rw [if_pos (show true = true from rfl)] at hw ⊢
      rw [hw, Option.bind_some]
    | false =>
      rw [if_pos zf]
      rw [if_neg (show ¬ false = true from by decide)] at hw ⊢
      rw [hw, Option.bind_some]
  · rw [decide_eq_false k]
    exact if_pos zf
theorem rc_save (h : RI σ m P nm M H S tx er ea ou) : ∃ τ, fX10_saveState σ m = some (τ, zi (M.1 0)) ∧ RI τ m P nm M H (some M) tx er ea ou ∧ zfr m (m + 15) σ τ ∧ τ.2.1 m 0 = zi 0 := by
  have hs := h.1.1
  have h1 := RI_tl (v := zi 0) h
  have t0 : (zuI σ m 0 (zi 0)).2.1 m 0 = zi 0 := told_0
  have f0 : zfr m (m + 15) σ (zuI σ m 0 (zi 0)) := zfr_tl
  unfold fX10_saveState
  rw [r_tl hs, Option.bind_some]
  generalize zuI σ m 0 (zi 0) = υ at *
  have hsυ := h1.1.1
  rw [r_now hsυ, Option.bind_some, r_saved hsυ, Option.bind_some, r_copies (by omega) hsυ.2.2.2.2.2.1 hsυ.2.2.2.2.2.2.2.2.2.1, Option.bind_some]
  obtain ⟨g, hg⟩ : ∃ g, g = (fun k => if k < 33894 then υ.2.1 (m + 4) k else υ.2.1 (m + 8) k) := ⟨_, rfl⟩
  rw [← hg, show zpZ 9 13 (rp υ (m + 8) g) m (zi 1) = some (zuI (rp υ (m + 8) g) m 13 (zb true)) from if_pos ⟨hsυ.1, Or.inr rfl⟩, Option.bind_some]
  obtain ⟨ω, hω⟩ : ∃ ω, ω = zuI (rp υ (m + 8) g) m 13 (zb true) := ⟨_, rfl⟩
  rw [← hω]
  have o0 : ∀ j, j ≠ 13 → ω.2.1 m j = υ.2.1 m j := fun j hj => by rw [hω, zuI_rd, if_neg hj, rp_ne (by omega)]
  have oo : ∀ o, 1 ≤ o → o ≠ 8 → ω.2.1 (m + o) = υ.2.1 (m + o) := fun o o1 o8 => by rw [hω, show (zuI (rp υ (m + 8) g) m 13 (zb true)).2.1 (m + o) = (rp υ (m + 8) g).2.1 (m + o) from zu_off _ _ _ (by omega), rp_ne (by omega)]
  have o8 : ω.2.1 (m + 8) = g := by rw [hω, show (zuI (rp υ (m + 8) g) m 13 (zb true)).2.1 (m + 8) = (rp υ (m + 8) g).2.1 (m + 8) from zu_off _ _ _ (by omega), rp_at]
  have e1 : ω.1 = υ.1 := by rw [hω]; rfl
  have e2 : ω.2.2 = υ.2.2 := by rw [hω]; rfl
  have fω : zfr m (m + 15) υ ω := ⟨e1, fun a ha => ⟨by rw [hω, show (zuI (rp υ (m + 8) g) m 13 (zb true)).2.1 a = (rp υ (m + 8) g).2.1 a from zu_off _ _ _ (by omega), rp_ne (by omega)], by rw [e2], by rw [e2]⟩⟩
  have hR : RI ω m P nm M H (some M) tx er ea ou := by
    obtain ⟨⟨a1, a2, a3, a4⟩, b, ⟨c1, c2, c3⟩, -, ⟨f1, f2, f3⟩, ⟨g1, g2⟩, ⟨i1, i2, i3⟩⟩ := h1
    refine ⟨⟨rsh_fr a1 e1 (by rw [e2]), ?_, by rw [oo 4 (by omega) (by omega)]; exact a3, a4⟩, ?_, ⟨by rw [o0 12 (by decide)]; exact c1, c2, fun k hk => by rw [oo 9 (by omega) (by omega)]; exact c3 k hk⟩, ⟨by rw [hω, zuI_rd, if_pos rfl]; rfl, fun N hN => ?_⟩, ⟨by rw [o0 15 (by decide)]; exact f1, f2, fun i hi => by rw [oo 10 (by omega) (by omega)]; exact f3 i hi⟩, ⟨by rw [o0 22 (by decide)]; exact g1, by rw [o0 23 (by decide)]; exact g2⟩, ⟨by rw [o0 31 (by decide)]; exact i1, i2, fun i hi => by rw [oo 14 (by omega) (by omega)]; exact i3 i hi⟩⟩
    · unfold rset
      rw [o0 1 (by decide), o0 2 (by decide), oo 1 (by omega) (by omega), oo 2 (by omega) (by omega)]
      exact a2
    · unfold RNm
      rw [e2]
      exact b
    · cases hN
      rw [o8]
      exact RM_eq a3 (fun k hk => by rw [hg]; exact if_pos hk)
  refine ⟨ω, ?_, hR, zfr_trans f0 fω, by rw [o0 0 (by decide)]; exact t0⟩
  rw [RN_now hR.1, Option.bind_some, L_of (x := 0) 0 hR.1 rfl (by omega), Option.bind_some]
theorem rc_restore (h : RI σ m P nm M H (some N) tx er ea ou) (hQ : qI P N) : ∃ τ, fX10_restoreState σ m = some (τ, zi (N.1 0)) ∧ RI τ m P nm N [] (some N) tx er ea ou ∧ zfr m (m + 15) σ τ ∧ τ.2.1 m 0 = zi 0 := by
  have hs := h.1.1
  have h1 := RI_tl (v := zi 0) h
  have t0 : (zuI σ m 0 (zi 0)).2.1 m 0 = zi 0 := told_0
  have f0 : zfr m (m + 15) σ (zuI σ m 0 (zi 0)) := zfr_tl
  unfold fX10_restoreState
  rw [r_int hs, Option.bind_some, h.2.2.2.1.1, RN_ck hs, r_is hs, Option.bind_some]
  dsimp only
  rw [if_neg (show ¬ zb (some N).isSome = zi 0 from by show ¬ zb true = zi 0; decide), show (if (some N).isSome = true then (0 : Int) else 1) = 0 from rfl]
  generalize zuI σ m 0 (zi 0) = υ at *
  have hsυ := h1.1.1
  rw [r_saved hsυ, Option.bind_some, r_now hsυ, Option.bind_some, r_copies (by omega) hsυ.2.2.2.2.2.2.2.2.2.1 hsυ.2.2.2.2.2.1, Option.bind_some]
  have hR1 := RI_now (A := fun k => if k < 33894 then υ.2.1 (m + 8) k else υ.2.1 (m + 4) k) h1 (RM_eq (h1.2.2.2.1.2 N rfl) (fun k hk => if_pos hk)) hQ
  rw [rp_put] at hR1
  have f1 : zfr m (m + 15) υ (rp υ (m + 4) (fun k => if k < 33894 then υ.2.1 (m + 8) k else υ.2.1 (m + 4) k)) := zfr_wide zfr_rp (by omega) (by omega)
  have t1 : (rp υ (m + 4) (fun k => if k < 33894 then υ.2.1 (m + 8) k else υ.2.1 (m + 4) k)).2.1 m 0 = zi 0 := by rw [rp_ne (by omega)]; exact t0
  generalize rp υ (m + 4) (fun k => if k < 33894 then υ.2.1 (m + 8) k else υ.2.1 (m + 4) k) = ω at *
  rw [r_put hR1.1.1, Option.bind_some]
  have hR2 : RI (zuI ω m 12 (zi 0)) m P nm N [] (some N) tx er ea ou := RI_hi hR1 rfl rfl (fun j hj => by rw [zuI_rd, if_neg (by omega)]) (fun o ho => zu_off _ _ _ (by omega)) ⟨by rw [zuI_rd, if_pos rfl]; rfl, Nat.zero_le _, fun k hk => absurd hk (Nat.not_lt_zero _)⟩
  refine ⟨_, ?_, hR2, zfr_trans f0 (zfr_trans f1 (zfr_wide zfr_I (by omega) (by omega))), by rw [zuI_rd, if_neg (by decide)]; exact t1⟩
  rw [RN_now hR2.1, Option.bind_some, L_of (x := 0) 0 hR2.1 rfl (by omega), Option.bind_some]
theorem rc_restore0 (h : RI σ m P nm M H none tx er ea ou) : fX10_restoreState σ m = some (zuI σ m 0 (zi 1), zi 0) := by
  have hs := h.1.1
  unfold fX10_restoreState
  rw [r_int hs, Option.bind_some, h.2.2.2.1.1, RN_ck hs, r_is hs, Option.bind_some]
  exact if_pos rfl
end RCh
