/-! Barriers arrive in the reference. -/
section RU
variable {σ : zS} {m : Nat} {A : Nat → Int32} {S : Nat → Int} {R : Nat → List Int} {P : qP} {M : qM}
theorem pR_first (hI : qI P M) {c : Nat} (hc : c < 24) : rfirst (pR P M c) (M.2.2 c) := by
  rw [pR_ch hc]
  exact qins_first (qI_pos hI (by omega) _) (qI_wi hI hc _)
/-- what a worker that has cut, or is to cut now, holds of its channels -/
theorem qI_outB (hI : qI P M) (h67 : M.1 67 = 1) {i : Nat} (hi : i < qmany M) (h144 : M.1 (144 + i) = 0) : ∀ k, k < P.2.1 → M.2.2 (4 * (4 + k) + i) = -1 := by
  intro k hk
  have h4 := qN_many hI.1.2.1
  have hk2 := hI.1.1.2.2.2.1
  have e := (hI.1.2.2.2.2.2.1 h67).2.1.1 (4 + k) i (by omega) (by omega) (by
    unfold qlc qlr qns
    rw [if_neg (by omega), if_neg (by omega)]
    omega)
  apply Decidable.byContradiction
  intro q
  have := (e.2.1.mp q).1
  unfold qsrc at this
  rw [if_neg (by omega)] at this
  omega
theorem qI_clE (hI : qI P M) (h67 : M.1 67 = 1) (hno : ¬ qhid M) {j : Nat} (hj : j < 2) (h : M.1 (148 + j) = 0) : M.2.1 (26 + j) = [] := (hI.1.2.2.2.2.2.1 h67).2.1.2.2 hno j hj h
theorem ra_over27 {s i : Nat} (h : rsh σ m) (hA : RM A P M) (hs : s < 4) (hi : i < 4) (hp : rpos ((M.2.1 (4 * i + s)).map (qen P (4 * i + s)))) (hb : 0 ≤ M.2.2 (4 * i + s) ∧ M.2.2 (4 * i + s) ≤ (M.2.1 (4 * i + s)).length) (hl : (M.2.1 (30 + (4 * i + s))).length + (M.2.2 (4 * i + s)).toNat ≤ rcap (30 + (4 * i + s))) :
    ∃ B, jX10_overtakesAt_27 (rput σ m A) m (zi s) (zi i) = some (rput σ m B) ∧ RM B P (qu M.1 (74 + (4 * i + s)) 1, qu M.2.1 (30 + (4 * i + s)) (M.2.1 (30 + (4 * i + s)) ++ (M.2.1 (4 * i + s)).take (M.2.2 (4 * i + s)).toNat), qu M.2.2 (4 * i + s) (-1)) := by
  obtain ⟨B, e, hB⟩ := ra_keep h hA (by omega) hp hb hl
  have hC := RM_set (k0 := 74 + (4 * s + i)) (v := 1) (w := 1) hB (by omega) (ri_ai hs hi) (by rw [if_neg (by omega)]; rfl)
  refine ⟨_, ?_, hC⟩
  unfold jX10_overtakesAt_27
  rw [f_toInstance hs hi, Option.bind_some, f_keptIn hs hi, Option.bind_some, rd_ck h, e, Option.bind_some, rd_now h, Option.bind_some, f_channelIn, Option.bind_some, zi_add, ra_w (74 + (4 * s + i)) h (by omega) (by omega), Option.bind_some]
theorem ra_over27s {k i : Nat} (h : rsh σ m) (hA : RM A P M) (hk : k < 2) (hi : i < 4) (hp : rpos ((M.2.1 (4 * (4 + k) + i)).map (qen P (4 * (4 + k) + i)))) (hb : 0 ≤ M.2.2 (4 * (4 + k) + i) ∧ M.2.2 (4 * (4 + k) + i) ≤ (M.2.1 (4 * (4 + k) + i)).length) (hl : (M.2.1 (30 + (4 * (4 + k) + i))).length + (M.2.2 (4 * (4 + k) + i)).toNat ≤ rcap (30 + (4 * (4 + k) + i))) :
    ∃ B, jX10_overtakesAtSink_27 (rput σ m A) m (zi i) (zi k) = some (rput σ m B) ∧ RM B P (qu M.1 (74 + (4 * (4 + k) + i)) 1, qu M.2.1 (30 + (4 * (4 + k) + i)) (M.2.1 (30 + (4 * (4 + k) + i)) ++ (M.2.1 (4 * (4 + k) + i)).take (M.2.2 (4 * (4 + k) + i)).toNat), qu M.2.2 (4 * (4 + k) + i) (-1)) := by
  obtain ⟨B, e, hB⟩ := ra_keep h hA (by omega) hp hb hl
  have hC := RM_set (k0 := 90 + (2 * i + k)) (v := 1) (w := 1) hB (by omega) (ri_ao hk hi) (by rw [if_neg (by omega)]; rfl)
  refine ⟨_, ?_, hC⟩
  unfold jX10_overtakesAtSink_27
  rw [f_toSink hk hi, Option.bind_some, f_keptOut hk hi, Option.bind_some, rd_ck h, e, Option.bind_some, rd_now h, Option.bind_some, f_channelOut, Option.bind_some, zi_add, ra_w (90 + (2 * i + k)) h (by omega) (by omega), Option.bind_some]
/-- the room of what is kept, out of what the arrival leaves -/
theorem qover_len {r x : Nat} (hI : qI P M) (h67 : M.1 67 = 1) (h69 : M.1 69 = 1) (hr : r < 6) (hlc : qlc P M r x) (hB : M.2.2 (4 * r + x) ≠ -1) : (M.2.1 (30 + (4 * r + x))).length + (M.2.2 (4 * r + x)).toNat ≤ rcap (30 + (4 * r + x)) := by
  have hx : x < 4 := by have := hlc.2; have := qns_le hI.1.1 hI.1.2.1 r; omega
  have h2 := qI_over hI h67 h69 hr hlc hB
  have hb := qI_B hI (c := 4 * r + x) (by omega)
  have e67 : (qover P r x M).1 67 = 1 := by rw [(qover_same hr hx).1 67 (by omega)]; exact h67
  have hl := qI_lenF h2 (f := 30) (Or.inl ⟨rfl, e67⟩) (c := 4 * r + x) (by omega)
  have e : (qover P r x M).2.1 (30 + (4 * r + x)) = M.2.1 (30 + (4 * r + x)) ++ (M.2.1 (4 * r + x)).take (M.2.2 (4 * r + x)).toNat := by
    unfold qover
    dsimp only
    rw [qu_at]
    congr 1
    split
    · unfold qcut
      split
      · rfl
      · dsimp only
        rw [qu_ne (by omega), qu_ne (by omega)]
    · rfl
  rw [e, List.length_append, List.length_take] at hl
  by_cases h16 : 4 * r + x < 16
  · rw [rcap_a (by omega)]; have := hl.2 h16; omega
  · have := rcap_b (c := 30 + (4 * r + x)) (by omega); omega
theorem ra_overtakesAt {s i : Nat} (h : rsh σ m) (hs : rset σ m P) (hI : qI P M) (hA : RM A P M) (h67 : M.1 67 = 1) (h69 : M.1 69 = 1) (hs4 : s < P.1) (hi : i < qmany M) : ∃ B, fX10_overtakesAt (rput σ m A) m (zi s) (zi i) = some (rput σ m B) ∧ RM B P (if M.2.2 (4 * i + s) = -1 then M else qover P i s M) := by
  have hN := hI.1.2.1
  have h4 := qN_many hN
  have hP4 := hI.1.1.2.1
  have hb := qI_B hI (c := 4 * i + s) (by omega)
  have hlc : qlc P M i s := by
    unfold qlc qlr qns
    rw [if_pos (by omega), if_pos (by omega)]
    omega
  have hlen := (qI_len hI (c := 4 * i + s) (by omega)).1
  have hbar := ra_barrierIn (b := M.2.2 (4 * i + s)) (4 * i + s) h hA rfl (by omega) (qI_rok hI (by omega)) (pR_first hI (by omega))
  unfold fX10_overtakesAt
  rw [f_toInstance (by omega) (by omega), Option.bind_some, rd_ck h, hbar, Option.bind_some]
  by_cases e : M.2.2 (4 * i + s) = -1
  · rw [if_pos e]
    refine ⟨A, ?_, hA⟩
    rw [if_pos (by rw [e])]
  · have hcc := qcnt_cut hI h67 h69 (r := i) (by omega) hlc.1
    have hq := qcnt_eq hI.1 h67 (r := i) (by omega)
    have hns := qns_le hI.1.1 hN i
    have hroom := qover_len hI h67 h69 (by omega) hlc e
    rw [if_neg e, if_neg (by rw [zi_m1 (by omega) (by omega)]; exact e), rd_ck h, ra_arrivedAt h hA hI.1.1 hs (by omega), Option.bind_some]
    by_cases e2 : qcnt P M i = 0
    · rw [if_pos (by rw [e2])]
      obtain ⟨B, eB, hB⟩ := ra_notes h hs hI.1.1 hN (fun c hc => (qI_len hI (by omega)).1) hA hi (qI_outB hI h67 hi (hcc.mp e2))
      have hLc : ∀ d, (qcut P i M).2.1 d = M.2.1 d := fun d => by unfold qcut; rw [if_pos (show i < 4 from by omega)]
      have hBc : (qcut P i M).2.2 (4 * i + s) = M.2.2 (4 * i + s) := by
        unfold qcut
        rw [if_pos (show i < 4 from by omega)]
        dsimp only
        rw [if_neg (by omega)]
      obtain ⟨C, eC, hC⟩ := ra_over27 (s := s) (i := i) h hB (by omega) (by omega) (by rw [hLc]; exact qI_pos hI (by omega) _) (by rw [hLc, hBc]; omega) (by rw [hLc, hBc]; exact hroom)
      refine ⟨C, ?_, ?_⟩
      · rw [rd_ck h, eB, Option.bind_some]; exact eC
      · rw [hLc (4 * i + s), hBc] at hC
        unfold qover
        dsimp only
        rw [if_pos e2]
        exact hC
    · rw [if_neg (by rw [zi_eq (by omega) (by omega) (by omega) (by omega)]; exact e2)]
      obtain ⟨C, eC, hC⟩ := ra_over27 (s := s) (i := i) h hA (by omega) (by omega) (qI_pos hI (by omega) _) (by omega) hroom
      refine ⟨C, eC, ?_⟩
      unfold qover
      dsimp only
      rw [if_neg e2]
      exact hC
theorem ra_overtakesAtSink {k i : Nat} (h : rsh σ m) (hs : rset σ m P) (hI : qI P M) (hA : RM A P M) (h67 : M.1 67 = 1) (h69 : M.1 69 = 1) (hk : k < P.2.1) (hi : i < qmany M) : ∃ B, fX10_overtakesAtSink (rput σ m A) m (zi i) (zi k) = some (rput σ m B) ∧ RM B P (if M.2.2 (4 * (4 + k) + i) = -1 then M else qover P (4 + k) i M) := by
  have hN := hI.1.2.1
  have h4 := qN_many hN
  have hP4 := hI.1.1.2.1
  have hk2 := hI.1.1.2.2.2.1
  have hb := qI_B hI (c := 4 * (4 + k) + i) (by omega)
  have hlc : qlc P M (4 + k) i := by
    unfold qlc qlr qns
    rw [if_neg (by omega), if_neg (by omega)]
    omega
  have hlen := (qI_len hI (c := 4 * (4 + k) + i) (by omega)).1
  have hbar := ra_barrierIn (b := M.2.2 (4 * (4 + k) + i)) (4 * (4 + k) + i) h hA rfl (by omega) (qI_rok hI (by omega)) (pR_first hI (by omega))
  unfold fX10_overtakesAtSink
  rw [f_toSink (by omega) (by omega), Option.bind_some, rd_ck h, hbar, Option.bind_some]
  by_cases e : M.2.2 (4 * (4 + k) + i) = -1
  · rw [if_pos e]
    refine ⟨A, ?_, hA⟩
    rw [if_pos (by rw [e])]
  · have hcc := qcnt_cut hI h67 h69 (r := 4 + k) (by omega) hlc.1
    have hq := qcnt_eq hI.1 h67 (r := 4 + k) (by omega)
    have hns := qns_le hI.1.1 hN (4 + k)
    have hroom := qover_len hI h67 h69 (by omega) hlc e
    have hno := (qI_src hI.1 h67 (by omega) (by omega) hlc e).1
    rw [if_neg e, if_neg (by rw [zi_m1 (by omega) (by omega)]; exact e), rd_ck h, ra_arrivedAtSink h hA hN (by omega), Option.bind_some]
    by_cases e2 : qcnt P M (4 + k) = 0
    · rw [if_pos (by rw [e2])]
      obtain ⟨B, eB, hB⟩ := ra_closes h (qI_len hI (by omega)).1 hA (k := k) (by omega) (qI_clE hI h67 hno (by omega) (by have := hcc.mp e2; rw [show 144 + (4 + k) = 148 + k from by omega] at this; exact this))
      have hLc : ∀ d, d ≠ 24 + k → d ≠ 26 + k → (qcut P (4 + k) M).2.1 d = M.2.1 d := fun d h1 h2 => by
        rw [qcut_sink]
        dsimp only
        rw [qu_ne h1, qu_ne h2]
      have hBc : (qcut P (4 + k) M).2.2 (4 * (4 + k) + i) = M.2.2 (4 * (4 + k) + i) := by rw [qcut_sink]
      have hl1 := hLc (4 * (4 + k) + i) (by omega) (by omega)
      have hl2 := hLc (30 + (4 * (4 + k) + i)) (by omega) (by omega)
      obtain ⟨C, eC, hC⟩ := ra_over27s (k := k) (i := i) h hB (by omega) (by omega) (by rw [hl1]; exact qI_pos hI (by omega) _) (by rw [hl1, hBc]; omega) (by rw [hl2, hBc]; exact hroom)
      refine ⟨C, ?_, ?_⟩
      · rw [rd_ck h, eB, Option.bind_some]; exact eC
      · rw [hl1, hBc] at hC
        unfold qover
        dsimp only
        rw [if_pos e2]
        exact hC
    · rw [if_neg (by rw [zi_eq (by omega) (by omega) (by omega) (by omega)]; exact e2)]
      obtain ⟨C, eC, hC⟩ := ra_over27s (k := k) (i := i) h hA (by omega) (by omega) (qI_pos hI (by omega) _) (by omega) hroom
      refine ⟨C, eC, ?_⟩
      unfold qover
      dsimp only
      rw [if_neg e2]
      exact hC
end RU
