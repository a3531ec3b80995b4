/-! THE REFERENCE'S FORECASTS. -/
section RFc
variable {σ υ : zS} {m : Nat} {A B : Nat → Int32} {P : qP} {M N M0 : qM} {H : List qM} {S : Option qM} {nm : Nat → List Int32} {tx ou : List Int32} {er ea z : Int}
theorem r_tries (h : RI σ m P nm M H S tx er ea ou) (h0 : σ.2.1 m 0 = zi 0) : ∃ υ, fX10_tries σ m = some υ ∧ RI υ m P nm M H S tx er ea ou ∧ RM (υ.2.1 (m + 7)) P M ∧ zfr m (m + 15) σ υ ∧ υ.2.1 m 0 = zi 0 := by
  refine ⟨_, ?_, RI_rp (g := fun k => if k < 33894 then σ.2.1 (m + 4) k else σ.2.1 (m + 7) k) h (o := 7) (by omega), ?_, zfr_wide zfr_rp (by omega) (by omega), by rw [rp_ne (by omega)]; exact h0⟩
  · unfold fX10_tries
    rw [r_now h.1.1, Option.bind_some, r_tried h.1.1, Option.bind_some, r_copies (by omega) h.1.1.2.2.2.2.2.1 h.1.1.2.2.2.2.2.2.2.2.1, Option.bind_some]
  · rw [rp_at]
    exact RM_eq h.1.2.2.1 (fun k hk => if_pos hk)
/-- a forecast ends: the row is laid back -/
theorem r_back {v : Int32} (h : RI υ m P nm M H S tx er ea ou) (ha : RM (υ.2.1 (m + 7)) P M) (h0 : υ.2.1 m 0 = zi 0) : ∃ C, fX10_laysBack (rput υ m B) m v = some (rput υ m C, v) ∧ RI (rput υ m C) m P nm M H S tx er ea ou ∧ zfr m (m + 15) υ (rput υ m C) ∧ (rput υ m C).2.1 m 0 = zi 0 := by
  have hs : rsh (rput υ m B) m := h.1.1
  refine ⟨fun k => if k < 33894 then υ.2.1 (m + 7) k else B k, ?_, RI_now h (RM_eq ha (fun k hk => if_pos hk)) h.1.2.2.2, ⟨rfl, fun a ha2 => ⟨rput_ne (by omega), rfl, rfl⟩⟩, by rw [rput_ne (by omega)]; exact h0⟩
  unfold fX10_laysBack
  rw [r_tried hs, Option.bind_some, r_now hs, Option.bind_some, r_copies (by omega) hs.2.2.2.2.2.2.2.2.1 hs.2.2.2.2.2.1, Option.bind_some, rput_ne (by omega), rput_at]
  rw [rp_put, rp_rp, ← rp_put]
theorem r_comp {t : Nat} (h : rsh σ m) (hs : rset σ m P) (hI : qI P M) (hB : KB z M) (hz : z + t < 900000000) (hA : RM A P M) (ht : t < 100000) :
    ∃ B, fX10_completesWithin (rput σ m A) m (zi t) = some (rput σ m B, zi (qcw P M t)) ∧ RM B P (qcwM P M t) := by
  obtain ⟨y, hy, hq⟩ := zloop_run (step := sX10_completesWithin_10 m (zi t) (zi (M.1 6))) (s := (rput σ m A, zi 1)) (fuel := zfuel) t
    (fun i s => ∃ B, s = (rput σ m B, zi ((i + 1 : Nat) : Int)) ∧ RM B P (qit P i M) ∧ ∀ j, j ≤ i → qcomp P M j = false)
    (fun y => (∃ B k, y = .inl (rput σ m B, zi (k : Nat)) ∧ RM B P (qit P k M) ∧ k ≤ t ∧ (∀ j, j < k → qcomp P M j = false) ∧ qcomp P M k = true) ∨ ∃ B, y = .inr (rput σ m B) ∧ RM B P (qit P t M) ∧ ∀ j, j ≤ t → qcomp P M j = false)
    (fun i s hi hs2 => by
      obtain ⟨B, rfl, hB2, hj⟩ := hs2
      obtain ⟨i1, i2⟩ := qI_it hI hB i
      obtain ⟨C, e, hC⟩ := ra_ticks h hs i1 hB2 ⟨i2.1.1, by have := i2.1.2; omega⟩ i2.2.1.1
      have w6 : zaI (rput σ m C) (m + 4) (zi 6) = some (zi ((qit P (i + 1) M).1 6)) := by
        rw [ra_S (x := 6) 6 h hC rfl (by omega), pS_lo (by omega)]; rfl
      by_cases q : zi (M.1 6) < zi ((qit P (i + 1) M).1 6)
      · refine Or.inr ⟨.inl (rput σ m C, zi ((i + 1 : Nat) : Int)), ?_, Or.inl ⟨C, i + 1, rfl, hC, by omega, fun j h2 => hj j (by omega), ?_⟩⟩
        · unfold sX10_completesWithin_10 sX10_completesWithin_10b
          dsimp only
          rw [if_neg (by rw [zi_lt (by omega) (by omega) (by omega) (by omega)]; omega), rd_ck h, e, Option.bind_some, rd_now h, Option.bind_some, w6, Option.bind_some, if_neg (Int32.not_le.mpr q)]
        · unfold qcomp
          rw [decide_eq_true q, decide_eq_true (by omega)]; rfl
      · refine Or.inl ⟨(rput σ m C, zi ((i + 1 + 1 : Nat) : Int)), ?_, C, rfl, hC, fun j h2 => ?_⟩
        · unfold sX10_completesWithin_10 sX10_completesWithin_10b
          dsimp only
          rw [if_neg (by rw [zi_lt (by omega) (by omega) (by omega) (by omega)]; omega), rd_ck h, e, Option.bind_some, rd_now h, Option.bind_some, w6, Option.bind_some, if_pos (Int32.not_lt.mp q), zi_add]
          rfl
        · by_cases e2 : j = i + 1
          · rw [e2]; unfold qcomp
            rw [decide_eq_false q, Bool.and_false]
          · exact hj j (by omega))
    (fun s hs2 => by
      obtain ⟨B, rfl, hB2, hj⟩ := hs2
      refine ⟨_, ?_, Or.inr ⟨B, rfl, hB2, hj⟩⟩
      unfold sX10_completesWithin_10 sX10_completesWithin_10b
      dsimp only
      rw [if_pos (by rw [zi_lt (by omega) (by omega) (by omega) (by omega)]; omega)])
    (zfuel_lt (by omega)) ⟨A, rfl, hA, fun j hj => by rw [Nat.le_zero.mp hj]; rfl⟩
  have a6 : zaI (rput σ m A) (m + 4) (zi 6) = some (zi (M.1 6)) := by
    rw [ra_S (x := 6) 6 h hA rfl (by omega), pS_lo (by omega)]
  unfold fX10_completesWithin
  rw [rd_now h, Option.bind_some, a6, Option.bind_some, hy, Option.bind_some]
  rcases hq with ⟨B, k, rfl, hB2, hk, hj, hc⟩ | ⟨B, rfl, hB2, hj⟩
  · have e := qfind_at (n := t + 1) hj (by omega) hc
    refine ⟨B, ?_, ?_⟩
    · dsimp only
      unfold qcw
      rw [e]
    · unfold qcwM qcw
      rw [e, if_neg (by omega), Int.toNat_natCast]
      exact hB2
  · have e := qfind_no (p := qcomp P M) (n := t + 1) (fun i hi => hj i (by omega))
    refine ⟨B, ?_, ?_⟩
    · dsimp only
      unfold qcw
      rw [e]
    · unfold qcwM qcw
      rw [e, if_pos rfl]
      exact hB2
theorem rc_complIn {t : Int} (h : RI σ m P nm M H S tx er ea ou) (hQ : QI z P M H S) (hz : z < 800000000) (ht : zin t) : ∃ τ, fX10_completesIn σ m (zi t) = some (τ, zi (aComplIn P M t).2) ∧ RI τ m P nm M H S tx er ea ou ∧ zfr m (m + 15) σ τ ∧ τ.2.1 m 0 = zi (aComplIn P M t).1 := by
  have hs := h.1.1
  have hN := h.1.2.2.2.1.2.1
  unfold fX10_completesIn aComplIn
  rw [r_isTicks ht, Option.bind_some]
  dsimp only
  rw [RN_ck hs, r_is hs, Option.bind_some]
  dsimp only
  cases k : aTicks t with
  | true =>
    rw [if_neg zt, if_pos (show true = true from rfl), if_pos (show true = true from rfl)]
    have h1 := RI_tl (v := zi 0) h
    have t0 : (zuI σ m 0 (zi 0)).2.1 m 0 = zi 0 := told_0
    rw [RN_now h1.1, Option.bind_some, L_of (x := 67) 67 h1.1 rfl (by omega), Option.bind_some]
    unfold aTicks at k
    rw [decide_eq_true_iff] at k
    obtain ⟨n, rfl⟩ := nat_of (show 0 ≤ t from by omega)
    rw [Int.toNat_natCast]
    rcases hN.2.2.2.2.2.2.2.1 with e | e
    · rw [e, if_pos rfl, if_neg (by decide)]
      exact ⟨_, rfl, h1, zfr_tl, t0⟩
    · rw [e, if_neg z10, if_pos (show (1 : Int) = 1 from rfl)]
      obtain ⟨υ, e1, hυ, ha, hf, h0⟩ := r_tries h1 t0
      obtain ⟨B, e2, hB⟩ := r_comp (t := n) hυ.1.1 hυ.1.2.1 hυ.1.2.2.2 hQ.1.2 (by omega) hυ.1.2.2.1 (by omega)
      rw [rput_self] at e2
      obtain ⟨C, e3, k1, k2, k3⟩ := r_back (B := B) (v := zi (qcw P M n)) hυ ha h0
      refine ⟨_, ?_, k1, zfr_trans zfr_tl (zfr_trans hf k2), k3⟩
      rw [RN_ck h1.1.1, e1, Option.bind_some, RN_ck hυ.1.1, e2, Option.bind_some]
      dsimp only
      rw [RN_ck (show rsh (rput υ m B) m from hυ.1.1), e3, Option.bind_some]
  | false =>
    rw [if_pos zf, if_neg (by decide), if_neg (by decide)]
    exact ⟨_, rfl, RI_tl h, zfr_tl, told_0⟩
theorem rc_take {d : Bool} (h : RI σ m P nm M H S tx er ea ou) (hQ : QI z P M H S) (hz : z < 800000000) : ∃ τ, fX10_wouldTake σ m (zb d) = some (τ, zi (aTake P M (if d then 1 else 0))) ∧ RI τ m P nm M H S tx er ea ou ∧ zfr m (m + 15) σ τ ∧ τ.2.1 m 0 = zi 0 := by
  have hs := h.1.1
  have hN := h.1.2.2.2.1.2.1
  have h1 := RI_tl (v := zi 0) h
  have t0 : (zuI σ m 0 (zi 0)).2.1 m 0 = zi 0 := told_0
  unfold fX10_wouldTake aTake
  rw [r_tl hs, Option.bind_some, RN_now h1.1, Option.bind_some, L_of (x := 67) 67 h1.1 rfl (by omega), Option.bind_some]
  rcases hN.2.2.2.2.2.2.2.1 with e | e
  · rw [e, if_neg (by decide), if_neg (by decide)]
    have ho : (if d then (1 : Int) else 0) = 0 ∨ (if d then (1 : Int) else 0) = 1 := by cases d <;> simp
    obtain ⟨υ, e1, hυ, ha, hf, h0⟩ := r_tries h1 t0
    obtain ⟨B0, e0, hB0⟩ := ra_begins (o := if d then 1 else 0) hυ.1.1 hυ.1.2.2.1
    rw [rput_self] at e0
    have hI1 := qI_begin hυ.1.2.2.2 e ho ⟨hQ.1.2.1.1, hQ.1.2.2.1.1⟩
    obtain ⟨B, e2, hB⟩ := r_comp (t := 500) hυ.1.1 hυ.1.2.1 hI1 (KB_begin hQ.1.2) (by omega) hB0 (by omega)
    obtain ⟨C, e3, k1, k2, k3⟩ := r_back (B := B) (v := zi (qcw P (qbegin (if d then 1 else 0) M) 500)) hυ ha h0
    refine ⟨_, ?_, k1, zfr_trans zfr_tl (zfr_trans hf k2), k3⟩
    rw [RN_ck h1.1.1, e1, Option.bind_some]
    have e32 : jX10_wouldTake_32 υ m (zi (if d then 1 else 0)) m = some (rput υ m C, zi (qcw P (qbegin (if d then 1 else 0) M) 500)) := by
      unfold jX10_wouldTake_32
      rw [RN_ck hυ.1.1, e0, Option.bind_some, RN_ck (show rsh (rput υ m B0) m from hυ.1.1), show zi 500 = zi ((500 : Nat) : Int) from rfl, e2, Option.bind_some]
      dsimp only
      rw [RN_ck (show rsh (rput υ m B) m from hυ.1.1), e3, Option.bind_some]
    cases d with
    | true => rw [if_neg zt]; exact e32
    | false => rw [if_pos zf]; exact e32
  · rw [e, if_pos rfl, if_pos (show (1 : Int) = 1 from rfl)]
    exact ⟨_, rfl, h1, zfr_tl, t0⟩
theorem rc_keep (h : RI σ m P nm M H S tx er ea ou) (hQ : QI z P M H S) (hz : z < 800000000) : ∃ τ, fX10_wouldKeep σ m = some (τ, zi (aKeep P M)) ∧ RI τ m P nm M H S tx er ea ou ∧ zfr m (m + 15) σ τ ∧ τ.2.1 m 0 = zi 0 := by
  have hs := h.1.1
  have hN := h.1.2.2.2.1.2.1
  have h1 := RI_tl (v := zi 0) h
  have t0 : (zuI σ m 0 (zi 0)).2.1 m 0 = zi 0 := told_0
  unfold fX10_wouldKeep aKeep
  rw [r_tl hs, Option.bind_some, RN_now h1.1, Option.bind_some, L_of (x := 67) 67 h1.1 rfl (by omega), Option.bind_some]
  rcases hN.2.2.2.2.2.2.2.1 with e | e
  · rw [e, if_neg (by decide), if_neg (by decide)]
    obtain ⟨υ, e1, hυ, ha, hf, h0⟩ := r_tries h1 t0
    obtain ⟨B0, e0, hB0⟩ := ra_begins (o := 1) hυ.1.1 hυ.1.2.2.1
    rw [rput_self] at e0
    have hI1 := qI_begin hυ.1.2.2.2 e (Or.inr rfl : (1 : Int) = 0 ∨ (1 : Int) = 1) ⟨hQ.1.2.1.1, hQ.1.2.2.1.1⟩
    obtain ⟨B, e2, hB⟩ := r_comp (t := 500) hυ.1.1 hυ.1.2.1 hI1 (KB_begin hQ.1.2) (by omega) hB0 (by omega)
    have hge := qfind_ge (p := qcomp P (qbegin 1 M)) (n := 500 + 1)
    have hq : qcw P (qbegin 1 M) 500 = qfind (qcomp P (qbegin 1 M)) (500 + 1) := rfl
    have hI5 : qI P (qcwM P (qbegin 1 M) 500) := by
      unfold qcwM
      exact (qI_it hI1 (KB_begin hQ.1.2) _).1
    have hRB : RN (rput υ m B) m P (qcwM P (qbegin 1 M) 500) := (RI_now hυ hB hI5).1
    rw [RN_ck h1.1.1, e1, Option.bind_some, RN_ck hυ.1.1, e0, Option.bind_some, RN_ck (show rsh (rput υ m B0) m from hυ.1.1), show zi 500 = zi ((500 : Nat) : Int) from rfl, e2, Option.bind_some]
    dsimp only
    by_cases e5 : qcw P (qbegin 1 M) 500 = -1
    · obtain ⟨C, e3, k1, k2, k3⟩ := r_back (B := B) (v := zi (-1)) hυ ha h0
      refine ⟨_, ?_, k1, zfr_trans zfr_tl (zfr_trans hf k2), k3⟩
      rw [if_pos (by rw [e5]), if_pos e5]
      unfold jX10_wouldKeep_53
      rw [RN_ck (show rsh (rput υ m B) m from hυ.1.1), e3, Option.bind_some]
    · obtain ⟨C, e3, k1, k2, k3⟩ := r_back (B := B) (v := zi (gtot (qcwM P (qbegin 1 M) 500) 54)) hυ ha h0
      refine ⟨_, ?_, k1, zfr_trans zfr_tl (zfr_trans hf k2), k3⟩
      rw [if_neg (by rw [zi_eq (by omega) (by omega) (by omega) (by omega)]; exact e5), if_neg e5, RN_ck (show rsh (rput υ m B) m from hυ.1.1), rq_allD hRB, Option.bind_some]
      unfold jX10_wouldKeep_53
      dsimp only
      rw [RN_ck (show rsh (rput υ m B) m from hυ.1.1), e3, Option.bind_some]
  · rw [e, if_pos rfl, if_pos (show (1 : Int) = 1 from rfl)]
    exact ⟨_, rfl, h1, zfr_tl, t0⟩
theorem r_quietW (h : RI σ m P nm M H S tx er ea ou) (hQ : QI z P M H S) (hz : z < 800000000) : ∃ B, fX10_quietWithin σ m = some (rput σ m B, zi (qqw P M)) := by
  have hs := h.1.1
  have hIt := fun i => (qI_it h.1.2.2.2 hQ.1.2 i).1
  obtain ⟨y, hy, hq⟩ := zloop_run (step := sX10_quietWithin_2 m) (s := (rput σ m (σ.2.1 (m + 4)), zi 0)) (fuel := zfuel) 1001
    (fun i s => ∃ B, s = (rput σ m B, zi (i : Int)) ∧ (i ≤ 1000 → RM B P (qit P i M)) ∧ ∀ j, j < i → qquiet P (qit P j M) = false)
    (fun y => (∃ B k, y = .inl (rput σ m B, zi (k : Nat)) ∧ k < 1001 ∧ (∀ j, j < k → qquiet P (qit P j M) = false) ∧ qquiet P (qit P k M) = true) ∨ ∃ B, y = .inr (rput σ m B) ∧ ∀ j, j < 1001 → qquiet P (qit P j M) = false)
    (fun i s hi hs2 => by
      obtain ⟨B, rfl, hB, hj⟩ := hs2
      obtain ⟨i1, i2⟩ := qI_it h.1.2.2.2 hQ.1.2 i
      have hB := hB (by omega)
      have hRB : RN (rput σ m B) m P (qit P i M) := (RI_now h hB i1).1
      have eq := rq_quiet hRB
      cases k : qquiet P (qit P i M) with
      | true =>
        refine Or.inr ⟨_, ?_, Or.inl ⟨B, i, rfl, hi, hj, k⟩⟩
        unfold sX10_quietWithin_2 sX10_quietWithin_2b
        dsimp only
        rw [if_neg (by rw [zi_lt (by omega) (by omega) (by omega) (by omega)]; omega), rd_ck hs, eq, Option.bind_some, k]
        rfl
      | false =>
        have hj2 : ∀ j, j < i + 1 → qquiet P (qit P j M) = false := fun j h2 => by
          by_cases e2 : j = i
          · rw [e2]; exact k
          · exact hj j (by omega)
        by_cases e9 : i = 1000
        · refine Or.inl ⟨(rput σ m B, zi ((i + 1 : Nat) : Int)), ?_, B, rfl, fun q => by omega, hj2⟩
          unfold sX10_quietWithin_2 sX10_quietWithin_2b
          dsimp only
          rw [if_neg (by rw [zi_lt (by omega) (by omega) (by omega) (by omega)]; omega), rd_ck hs, eq, Option.bind_some, k]
          dsimp only
          rw [if_pos zf, if_pos (zi_yle (by omega) (by omega) (by omega))]
          unfold jX10_quietWithin_29_L2
          rw [zi_add]
          rfl
        · obtain ⟨C, e, hC⟩ := ra_ticks hs h.1.2.1 i1 hB ⟨i2.1.1, by have := i2.1.2; omega⟩ i2.2.1.1
          refine Or.inl ⟨(rput σ m C, zi ((i + 1 : Nat) : Int)), ?_, C, rfl, fun _ => hC, hj2⟩
          unfold sX10_quietWithin_2 sX10_quietWithin_2b
          dsimp only
          rw [if_neg (by rw [zi_lt (by omega) (by omega) (by omega) (by omega)]; omega), rd_ck hs, eq, Option.bind_some, k]
          dsimp only
          rw [if_pos zf, if_neg (zi_nle (by omega) (by omega) (by omega)), rd_ck hs, e, Option.bind_some]
          unfold jX10_quietWithin_29_L2
          rw [zi_add]
          rfl)
    (fun s hs2 => by
      obtain ⟨B, rfl, hB, hj⟩ := hs2
      refine ⟨_, ?_, Or.inr ⟨B, rfl, hj⟩⟩
      unfold sX10_quietWithin_2 sX10_quietWithin_2b
      dsimp only
      rw [if_pos (by decide)])
    (zfuel_lt (by omega)) ⟨_, rfl, fun _ => h.1.2.2.1, fun j hj => absurd hj (Nat.not_lt_zero _)⟩
  rw [rput_self] at hy
  unfold fX10_quietWithin qqw
  rw [hy, Option.bind_some]
  rcases hq with ⟨B, k, rfl, hk, hj, hc⟩ | ⟨B, rfl, hj⟩
  · exact ⟨B, by dsimp only; rw [qfind_at (n := 1001) hj hk hc]⟩
  · exact ⟨B, by dsimp only; rw [qfind_no (n := 1001) hj]⟩
theorem rc_quiet (h : RI σ m P nm M H S tx er ea ou) (hQ : QI z P M H S) (hz : z < 800000000) : ∃ τ, fX10_quietIn σ m = some (τ, zi (qqw P M)) ∧ RI τ m P nm M H S tx er ea ou ∧ zfr m (m + 15) σ τ ∧ τ.2.1 m 0 = zi 0 := by
  have hs := h.1.1
  have h1 := RI_tl (v := zi 0) h
  obtain ⟨υ, e1, hυ, ha, hf, h0⟩ := r_tries h1 told_0
  obtain ⟨B, e2⟩ := r_quietW hυ hQ hz
  obtain ⟨C, e3, k1, k2, k3⟩ := r_back (B := B) (v := zi (qqw P M)) hυ ha h0
  refine ⟨_, ?_, k1, zfr_trans zfr_tl (zfr_trans hf k2), k3⟩
  unfold fX10_quietIn
  rw [r_tl hs, Option.bind_some, RN_ck h1.1.1, e1, Option.bind_some, RN_ck hυ.1.1, e2, Option.bind_some]
  dsimp only
  rw [RN_ck (show rsh (rput υ m B) m from hυ.1.1), e3, Option.bind_some]
theorem r_with {n t : Nat} (h : RI σ m P nm M H S tx er ea ou) (h0 : σ.2.1 m 0 = zi 0) (hQ : QI z P M H S) (hz : z < 800000000) (hn : 1 ≤ n ∧ n ≤ 4) (ht : t < 10000) : ∃ τ, fX10_handledWith σ m (zi n) (zi t) = some (τ, zi (qhand (qit P t (qrescale P n M)))) ∧ RI τ m P nm M H S tx er ea ou ∧ zfr m (m + 15) σ τ ∧ τ.2.1 m 0 = zi 0 := by
  obtain ⟨υ, e1, hυ, ha, hf, h1⟩ := r_tries h h0
  obtain ⟨B0, e0, hB0⟩ := ra_rescales (n := n) hυ.1.1 hυ.1.2.1 hυ.1.2.2.2 hυ.1.2.2.1 hn
  rw [rput_self] at e0
  have hI1 := qI_rescale (m := n) hυ.1.2.2.2 hn
  have hB1 := KB_res (P := P) (n := n) hQ.1.2
  obtain ⟨B, eB, hB⟩ := r_ticks (step := sX10_handledWith_13 m (zi (t : Int))) t hυ.1.1 hυ.1.2.1 hI1 hB1 (by omega) hB0 (by omega) (fun i B hi => by
    unfold sX10_handledWith_13 sX10_handledWith_13b
    dsimp only
    rw [if_neg (zi_nle (by omega) (by omega) (by omega)), rd_ck hυ.1.1]) (fun B => by
    unfold sX10_handledWith_13 sX10_handledWith_13b
    dsimp only
    rw [if_pos (zi_yle (by omega) (by omega) (Int.le_refl _))])
  have hRB : RN (rput υ m B) m P (qit P t (qrescale P n M)) := (RI_now hυ hB (qI_it hI1 hB1 t).1).1
  obtain ⟨C, e3, k1, k2, k3⟩ := r_back (B := B) (v := zi (qhand (qit P t (qrescale P n M)))) hυ ha h1
  refine ⟨_, ?_, k1, zfr_trans hf k2, k3⟩
  unfold fX10_handledWith
  rw [RN_ck h.1.1, e1, Option.bind_some, RN_ck hυ.1.1, e0, Option.bind_some]
  dsimp only
  rw [eB, Option.bind_some, RN_ck (show rsh (rput υ m B) m from hυ.1.1), rq_hand hRB, Option.bind_some]
  dsimp only
  rw [RN_ck (show rsh (rput υ m B) m from hυ.1.1), e3, Option.bind_some]
theorem rc_best {t : Int} (h : RI σ m P nm M H S tx er ea ou) (hQ : QI z P M H S) (hz : z < 800000000) (ht : zin t) : ∃ τ, fX10_bestInstances σ m (zi t) = some (τ, zi (aBest P M t).2) ∧ RI τ m P nm M H S tx er ea ou ∧ zfr m (m + 15) σ τ ∧ τ.2.1 m 0 = zi (aBest P M t).1 := by
  have hs := h.1.1
  unfold fX10_bestInstances aBest
  rw [r_isTicks ht, Option.bind_some]
  dsimp only
  rw [RN_ck hs, r_is hs, Option.bind_some]
  dsimp only
  cases k : aTicks t with
  | true =>
    rw [if_neg zt, if_pos (show true = true from rfl), if_pos (show true = true from rfl)]
    have h1 := RI_tl (v := zi 0) h
    unfold aTicks at k
    rw [decide_eq_true_iff] at k
    obtain ⟨n, rfl⟩ := nat_of (show 0 ≤ t from by omega)
    rw [Int.toNat_natCast]
    obtain ⟨y, hy, τ, rfl, k1, k2, k3⟩ := zloop_run (step := sX10_bestInstances_20 m (zi (n : Int))) (s := (zuI σ m 0 (zi 0), zi 1, zi (-1), zi 1)) (fuel := zfuel) 4
      (fun i s => ∃ τ, s = (τ, zi (qbest P M n i).1, zi (qbest P M n i).2, zi ((i + 1 : Nat) : Int)) ∧ RI τ m P nm M H S tx er ea ou ∧ zfr m (m + 15) σ τ ∧ τ.2.1 m 0 = zi 0)
      (fun y => ∃ τ, y = (τ, zi (qbest P M n 4).1) ∧ RI τ m P nm M H S tx er ea ou ∧ zfr m (m + 15) σ τ ∧ τ.2.1 m 0 = zi 0)
      (fun i s hi hs2 => by
        obtain ⟨τ, rfl, r1, r2, r3⟩ := hs2
        obtain ⟨τ2, e, q1, q2, q3⟩ := r_with (n := i + 1) (t := n) r1 r3 hQ hz (by omega) (by omega)
        have eb : qbest P M n (i + 1) = if zi (qbest P M n i).2 < zi (qhand (qit P n (qrescale P (i + 1) M))) then ((i : Int) + 1, qhand (qit P n (qrescale P (i + 1) M))) else qbest P M n i := rfl
        refine Or.inl ⟨(τ2, zi (qbest P M n (i + 1)).1, zi (qbest P M n (i + 1)).2, zi ((i + 1 + 1 : Nat) : Int)), ?_, τ2, rfl, q1, zfr_trans r2 q2, q3⟩
        unfold sX10_bestInstances_20 sX10_bestInstances_20b
        dsimp only
        rw [if_neg (by rw [zi_lt (by omega) (by omega) (by omega) (by omega)]; omega), RN_ck r1.1.1, e, Option.bind_some]
        dsimp only
        unfold jX10_bestInstances_50_L20
        rw [eb, zi_add]
        by_cases e6 : zi (qbest P M n i).2 < zi (qhand (qit P n (qrescale P (i + 1) M)))
        · rw [if_pos e6, if_pos e6]; rfl
        · rw [if_neg e6, if_neg e6]; rfl)
      (fun s hs2 => by
        obtain ⟨τ, rfl, r1, r2, r3⟩ := hs2
        refine ⟨_, ?_, τ, rfl, r1, r2, r3⟩
        unfold sX10_bestInstances_20 sX10_bestInstances_20b
        dsimp only
        rw [if_pos (by decide)])
      (zfuel_lt (by omega)) ⟨_, rfl, h1, zfr_tl, told_0⟩
    refine ⟨τ, ?_, k1, k2, k3⟩
    rw [hy, Option.bind_some]
  | false =>
    rw [if_pos zf, if_neg (by decide), if_neg (by decide)]
    exact ⟨_, rfl, RI_tl h, zfr_tl, told_0⟩
end RFc
