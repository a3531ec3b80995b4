section RU
variable {σ : zS} {m : Nat} {A : Nat → Int32} {S : Nat → Int} {R : Nat → List Int} {P : qP} {M : qM}
theorem qkeep_0 {r x : Nat} : qkeep r x [] 1 M = (qu (qu M.1 (74 + (4 * r + x)) 1) (43 + (4 * r + x)) 1, M.2.1, qu M.2.2 (4 * r + x) (-1)) := by
  unfold qkeep
  refine Prod.ext rfl (Prod.ext ?_ rfl)
  funext d
  dsimp only
  by_cases e : d = 30 + (4 * r + x)
  · subst e; rw [qu_at, List.append_nil]
  · rw [qu_ne e]
/-- what an aligning barrier's arrival is, ahead of the cut -/
theorem qI_keep0 {r x : Nat} (hI : qI P M) (h67 : M.1 67 = 1) (h69 : M.1 69 = 0) (hr : r < 6) (hlc : qlc P M r x) (hB : M.2.2 (4 * r + x) = 0) : qI0 P (qkeep r x [] 1 M) ∧ (qkeep r x [] 1 M).1 (144 + r) = 0 := by
  have hns := qns_le hI.1.1 hI.1.2.1
  have hx : x < 4 := by have := hlc.2; have := (hns r).1; omega
  obtain ⟨hno, f0⟩ := qI_src hI.1 h67 hr hx hlc (by omega)
  have hO := (hI.1.2.2.2.2.2.1 h67).1
  have hup : qup M (4 * r + x) = [] := by
    unfold qup
    rw [hB, if_neg (by omega)]
    rfl
  refine ⟨qI_keep (l := []) (b := 1) hI.1 h67 hr hx hlc (by omega) hup.symm (Or.inr ⟨h69, rfl, rfl⟩), ?_⟩
  rw [qkeep_S (by omega) (by omega)]
  rcases hO.2.2.2.1 r hr with q | q
  · exact q
  · have := (((hI.1.2.2.2.2.2.1 h67).2.1.1 r x hr hx hlc).2.2.2.2.2 h69).2.2 q; omega
theorem qI0_outB {i : Nat} (hI : qI0 P M) (h67 : M.1 67 = 1) (hi : i < qmany M) (h144 : M.1 (144 + i) = 0) : ∀ k, k < P.2.1 → M.2.2 (4 * (4 + k) + i) = -1 := by
  intro k hk
  have h4 := qN_many hI.2.1
  have hk2 := hI.1.2.2.2.1
  have e := (hI.2.2.2.2.2.1 h67).2.1.1 (4 + k) i (by omega) (by omega) (by
    unfold qlc qlr qns
    rw [if_neg (by omega), if_neg (by omega)]
    omega)
  apply Decidable.byContradiction
  intro q
  have := (e.2.1.mp q).1
  unfold qsrc at this
  rw [if_neg (by omega)] at this
  omega
theorem ra_aligns {s i : Nat} (h : rsh σ m) (hs : rset σ m P) (hI : qI P M) (h67 : M.1 67 = 1) (h69 : M.1 69 = 0) (hs4 : s < P.1) (hi : i < qmany M) (hB : M.2.2 (4 * i + s) = 0) (hA : RM A P (M.1, M.2.1, qu M.2.2 (4 * i + s) (-1))) :
    ∃ B, fX10_aligns (rput σ m A) m (zi s) (zi i) = some (rput σ m B) ∧ RM B P (qalign P i s M) := by
  have hN := hI.1.2.1
  have h4 := qN_many hN
  have hP4 := hI.1.1.2.1
  have hlc : qlc P M i s := by
    unfold qlc qlr qns
    rw [if_pos (by omega), if_pos (by omega)]
    omega
  obtain ⟨k0, k144⟩ := qI_keep0 hI h67 h69 (by omega) hlc hB
  have a1 := RM_set (k0 := 74 + (4 * s + i)) (v := 1) (w := 1) hA (by omega) (ri_ai (by omega) (by omega)) (by rw [if_neg (by omega)]; rfl)
  have a2 := RM_set (k0 := 43 + (4 * s + i)) (v := 1) (w := 1) a1 (by omega) (ri_bi (by omega) (by omega)) (by rw [if_neg (by omega)]; rfl)
  dsimp only at a2
  rw [← qkeep_0] at a2
  rw [qalign_eq]
  generalize hK : qkeep i s [] 1 M = K at a2 k0 k144
  have e1 : K.1 1 = M.1 1 := by rw [← hK]; exact qkeep_S (by omega) (by omega)
  have e67 : K.1 67 = 1 := by rw [← hK, qkeep_S (by omega) (by omega)]; exact h67
  have hLK : K.2.1 = M.2.1 := by rw [← hK, qkeep_0]
  have hns : qns P K i = P.1 := by unfold qns; rw [if_pos (by omega)]
  have hns0 : qns P M i = P.1 := by unfold qns; rw [if_pos (by omega)]
  obtain ⟨c1, c2, c3, c4⟩ := qcnt_eq k0 e67 (r := i) (by omega)
  rw [hns] at c2
  unfold fX10_aligns
  rw [rd_now h, Option.bind_some, f_channelIn, Option.bind_some, zi_add, ra_w (74 + (4 * s + i)) h (by omega) (by omega), Option.bind_some, rd_now h, Option.bind_some, f_channelIn, Option.bind_some, zi_add, ra_w (43 + (4 * s + i)) h (by omega) (by omega), Option.bind_some, rd_ck h, ra_arrivedAt h a2 hI.1.1 hs (by omega), Option.bind_some, rd_src h hs, Option.bind_some, hns0]
  by_cases e : qcnt P K i = P.1
  · rw [if_pos e, if_pos (zi_yle (by omega) (by omega) (by omega))]
    have hmK : qmany K = qmany M := qmany_eq e1
    obtain ⟨B, eB, hB2⟩ := ra_notes h hs hI.1.1 k0.2.1 (fun c hc => by rw [hLK]; exact (qI_len hI (by omega)).1) a2 (i := i) (by rw [hmK]; exact hi) (qI0_outB k0 e67 (by rw [hmK]; exact hi) k144)
    obtain ⟨C, eC, hC⟩ := rfor (σ := σ) (m := m) (step := sX10_aligns_48 m (zi i)) 0 P.1 (fun t B => RM B P ((fun k => if 43 + 4 * i ≤ k ∧ k < 43 + 4 * i + t then 0 else (qcut P i K).1 k), (qcut P i K).2)) (fun t B _ ht hB => by
      refine ⟨qu B (43 + (4 * t + i)) (zi 0), ?_, ?_⟩
      · unfold sX10_aligns_48 sX10_aligns_48b
        dsimp only
        rw [rd_src h hs, Option.bind_some, if_neg (zi_nle (by omega) (by omega) (by omega)), rd_now h, Option.bind_some, f_channelIn, Option.bind_some, zi_add, ra_w (43 + (4 * t + i)) h (by omega) (by omega), Option.bind_some]
      · refine RA_congr (RM_set (k0 := 43 + (4 * t + i)) (v := 0) (w := 0) hB (by omega) (ri_bi (by omega) (by omega)) (by rw [if_neg (by omega)]; rfl)) (fun k1 hk1 => pS_same (fun j hj => ?_) k1 hk1) (fun c _ => pR_same rfl (fun _ => rfl))
        dsimp only
        by_cases ej : j = 43 + (4 * i + t)
        · subst ej; rw [qu_at, if_pos (by omega)]
        · rw [qu_ne ej]
          by_cases e3 : 43 + 4 * i ≤ j ∧ j < 43 + 4 * i + t
          · rw [if_pos e3, if_pos (by omega)]
          · rw [if_neg e3, if_neg (by omega)]) (fun B _ => by
      unfold sX10_aligns_48 sX10_aligns_48b
      dsimp only
      rw [rd_src h hs, Option.bind_some, if_pos (zi_yle (by omega) (by omega) (by omega))]) (by omega) (by omega) (x := 0) rfl (RA_congr hB2 (fun k1 hk1 => pS_same (fun j hj => by dsimp only; rw [if_neg (by omega)]) k1 hk1) (fun c _ => pR_same rfl (fun _ => rfl)))
    refine ⟨C, ?_, RA_congr hC (fun k1 hk1 => pS_same (fun j hj => ?_) k1 hk1) (fun c _ => pR_same rfl (fun _ => rfl))⟩
    · rw [rd_ck h, eB, Option.bind_some, eC, Option.bind_some]
    · unfold qcutb
      dsimp only
      by_cases e3 : 43 + 4 * i ≤ j ∧ j < 43 + 4 * i + P.1
      · rw [if_pos e3, if_pos (by omega)]
      · rw [if_neg e3]
        by_cases e4 : 43 + 4 * i ≤ j ∧ j < 43 + 4 * i + 4
        · rw [if_pos e4]
          have hX := (k0.2.2.2.2.2.2.1 i (j - (43 + 4 * i)) (by omega) (by omega) (by
            unfold qlc qns
            rw [if_pos (by omega)]
            omega)).2
          rw [show 43 + (4 * i + (j - (43 + 4 * i))) = j from by omega] at hX
          unfold qcut
          rw [if_pos (show i < 4 from by omega)]
          dsimp only
          rw [if_neg (by omega), if_neg (by omega)]
          exact hX
        · rw [if_neg e4]
  · rw [if_neg e, if_neg (zi_nle (by omega) (by omega) (by omega))]
    exact ⟨_, rfl, a2⟩
theorem ra_alignsAtSink {k i : Nat} (h : rsh σ m) (hs : rset σ m P) (hI : qI P M) (h67 : M.1 67 = 1) (h69 : M.1 69 = 0) (hno : ¬ qhid M) (hk : k < P.2.1) (hi : i < qmany M) (hB : M.2.2 (4 * (4 + k) + i) = 0) (hA : RM A P (M.1, M.2.1, qu M.2.2 (4 * (4 + k) + i) (-1))) :
    ∃ B, fX10_alignsAtSink (rput σ m A) m (zi i) (zi k) = some (rput σ m B) ∧ RM B P (qalign P (4 + k) i M) := by
  have hN := hI.1.2.1
  have h4 := qN_many hN
  have hP4 := hI.1.1.2.1
  have hk2 := hI.1.1.2.2.2.1
  have hlc : qlc P M (4 + k) i := by
    unfold qlc qlr qns
    rw [if_neg (by omega), if_neg (by omega)]
    omega
  obtain ⟨k0, k144⟩ := qI_keep0 hI h67 h69 (by omega) hlc hB
  have a1 := RM_set (k0 := 90 + (2 * i + k)) (v := 1) (w := 1) hA (by omega) (ri_ao (by omega) (by omega)) (by rw [if_neg (by omega)]; rfl)
  have a2 := RM_set (k0 := 59 + (2 * i + k)) (v := 1) (w := 1) a1 (by omega) (ri_bo (by omega) (by omega)) (by rw [if_neg (by omega)]; rfl)
  dsimp only at a2
  rw [← qkeep_0] at a2
  rw [qalign_eq]
  generalize hK : qkeep (4 + k) i [] 1 M = K at a2 k0 k144
  have e1 : K.1 1 = M.1 1 := by rw [← hK]; exact qkeep_S (by omega) (by omega)
  have e67 : K.1 67 = 1 := by rw [← hK, qkeep_S (by omega) (by omega)]; exact h67
  have e118 : K.1 118 = M.1 118 := by rw [← hK]; exact qkeep_S (by omega) (by omega)
  have e123 : K.1 123 = M.1 123 := by rw [← hK]; exact qkeep_S (by omega) (by omega)
  have hLK : K.2.1 = M.2.1 := by rw [← hK, qkeep_0]
  have hmK : qmany K = qmany M := qmany_eq e1
  have hns : qns P K (4 + k) = qmany M := by unfold qns; rw [if_neg (by omega), hmK]
  have hns0 : qns P M (4 + k) = qmany M := by unfold qns; rw [if_neg (by omega)]
  obtain ⟨c1, c2, c3, c4⟩ := qcnt_eq k0 e67 (r := 4 + k) (by omega)
  rw [hns] at c2
  unfold fX10_alignsAtSink
  rw [rd_now h, Option.bind_some, f_channelOut, Option.bind_some, zi_add, ra_w (90 + (2 * i + k)) h (by omega) (by omega), Option.bind_some, rd_now h, Option.bind_some, f_channelOut, Option.bind_some, zi_add, ra_w (59 + (2 * i + k)) h (by omega) (by omega), Option.bind_some, rd_ck h, ra_arrivedAtSink h a2 k0.2.1 (by omega), Option.bind_some, rd_now h, Option.bind_some, ra_many h a2 k0.2.1, Option.bind_some, hns0, hmK]
  by_cases e : qcnt P K (4 + k) = qmany M
  · rw [if_pos e, if_pos (zi_yle (by omega) (by omega) (by omega))]
    obtain ⟨B, eB, hB2⟩ := ra_closes h (by rw [hLK]; exact (qI_len hI (by omega)).1) a2 (k := k) (by omega) (by
      have := (k0.2.2.2.2.2.1 e67).2.1.2.2 (by unfold qhid; rw [e118, e123]; exact hno) k (by omega) (by rw [show 148 + k = 144 + (4 + k) from by omega]; exact k144)
      exact this)
    obtain ⟨C, eC, hC⟩ := rfor (σ := σ) (m := m) (step := sX10_alignsAtSink_50 m (zi k)) 0 (qmany M) (fun t B => RM B P ((fun j => if 59 + 4 * k ≤ j ∧ j < 59 + 4 * k + t then 0 else (qcut P (4 + k) K).1 j), (qcut P (4 + k) K).2)) (fun t B _ ht hB => by
      have hq1 : zaI (rput σ m B) (m + 4) (zi 1) = some (zi (qmany M)) := by
        rw [ra_S 1 h hB (by omega) (by omega), pS_lo (by omega)]
        dsimp only
        rw [if_neg (by omega), qcut_sink]
        dsimp only
        rw [qu_ne (by omega), e1]
        congr 2
        unfold qmany
        have := hN.1
        omega
      refine ⟨qu B (59 + (2 * t + k)) (zi 0), ?_, ?_⟩
      · unfold sX10_alignsAtSink_50 sX10_alignsAtSink_50b
        dsimp only
        rw [rd_now h, Option.bind_some, hq1, Option.bind_some, if_neg (zi_nle (by omega) (by omega) (by omega)), Option.bind_some, f_channelOut, Option.bind_some, zi_add, ra_w (59 + (2 * t + k)) h (by omega) (by omega), Option.bind_some]
      · refine RA_congr (RM_set (k0 := 59 + (2 * t + k)) (v := 0) (w := 0) hB (by omega) (ri_bo (by omega) (by omega)) (by rw [if_neg (by omega)]; rfl)) (fun k1 hk1 => pS_same (fun j hj => ?_) k1 hk1) (fun c _ => pR_same rfl (fun _ => rfl))
        dsimp only
        by_cases ej : j = 43 + (4 * (4 + k) + t)
        · subst ej; rw [qu_at, if_pos (by omega)]
        · rw [qu_ne ej]
          by_cases e3 : 59 + 4 * k ≤ j ∧ j < 59 + 4 * k + t
          · rw [if_pos e3, if_pos (by omega)]
          · rw [if_neg e3, if_neg (by omega)]) (fun B hB => by
      have hq1 : zaI (rput σ m B) (m + 4) (zi 1) = some (zi (qmany M)) := by
        rw [ra_S 1 h hB (by omega) (by omega), pS_lo (by omega)]
        dsimp only
        rw [if_neg (by omega), qcut_sink]
        dsimp only
        rw [qu_ne (by omega), e1]
        congr 2
        unfold qmany
        have := hN.1
        omega
      unfold sX10_alignsAtSink_50 sX10_alignsAtSink_50b
      dsimp only
      rw [rd_now h, Option.bind_some, hq1, Option.bind_some, if_pos (zi_yle (by omega) (by omega) (by omega))]) (by omega) (by omega) (x := 0) rfl (RA_congr hB2 (fun k1 hk1 => pS_same (fun j hj => by dsimp only; rw [if_neg (by omega)]) k1 hk1) (fun c _ => pR_same rfl (fun _ => rfl)))
    refine ⟨C, ?_, RA_congr hC (fun k1 hk1 => pS_same (fun j hj => ?_) k1 hk1) (fun c _ => pR_same rfl (fun _ => rfl))⟩
    · rw [rd_ck h, eB, Option.bind_some, eC, Option.bind_some]
    · unfold qcutb
      dsimp only
      by_cases e3 : 59 + 4 * k ≤ j ∧ j < 59 + 4 * k + qmany M
      · rw [if_pos e3, if_pos (by omega)]
      · rw [if_neg e3]
        by_cases e4 : 43 + 4 * (4 + k) ≤ j ∧ j < 43 + 4 * (4 + k) + 4
        · rw [if_pos e4]
          have hX := (k0.2.2.2.2.2.2.1 (4 + k) (j - (59 + 4 * k)) (by omega) (by omega) (by
            unfold qlc qns
            rw [if_neg (by omega), hmK]
            omega)).2
          rw [show 43 + (4 * (4 + k) + (j - (59 + 4 * k))) = j from by omega] at hX
          rw [qcut_sink]
          dsimp only
          rw [qu_ne (by omega)]
          exact hX
        · rw [if_neg e4]
  · rw [if_neg e, if_neg (zi_nle (by omega) (by omega) (by omega))]
    exact ⟨_, rfl, a2⟩
end RU
