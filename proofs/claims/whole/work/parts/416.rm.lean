section RY
variable {σ : zS} {m : Nat} {A : Nat → Int32} {S : Nat → Int} {R : Nat → List Int} {P : qP} {M N : qM}
theorem ra_handlesAtSink {k : Nat} (h : rsh σ m) (hs : rset σ m P) (hI : qI P M) (hA : RM A P M) (hno : ¬ qhid M) (hk : k < P.2.1) (hnb : qNB M (4 + k)) : ∃ B, fX10_handlesAtSink (rput σ m A) m (zi k) = some (rput σ m B) ∧ RM B P (qhandle P (4 + k) M) := by
  have hN := hI.1.2.1
  have hP := hI.1.1
  have h4 := qN_many hN
  have hk2 := hP.2.2.2.1
  have hns : qns P M (4 + k) = qmany M := by unfold qns; rw [if_neg (by omega)]
  obtain ⟨t, ht⟩ : ∃ t : Nat, M.1 (37 + (4 + k)) = t := ⟨(M.1 (37 + (4 + k))).toNat, by have := (hN.2.2.2.2.2.2.2.2.2.2.2.1 (4 + k) (by omega)).1; omega⟩
  have ht4 : t ≤ 4 := by
    have := (hN.2.2.2.2.2.2.2.2.2.2.2.1 (4 + k) (by omega)).2 (by unfold qlr; rw [if_neg (by omega)]; omega)
    rw [hns] at this
    omega
  have hcan : ∀ x, x < qmany M → qcan P (4 + k) x M = decide (¬ (pR P M (4 * (4 + k) + x)).length = 0 ∧ ¬ M.1 (43 + (4 * (4 + k) + x)) = 1) := by
    intro x hx
    have hb := qI_B hI (c := 4 * (4 + k) + x) (by omega)
    have hl0 := pR_len0 hI (c := 4 * (4 + k) + x) (by omega)
    unfold qcan
    dsimp only
    by_cases eb : M.1 (43 + (4 * (4 + k) + x)) = 1
    · rw [if_pos eb, decide_eq_false (fun q => q.2 eb)]
    · rw [if_neg eb]
      by_cases eB : M.2.2 (4 * (4 + k) + x) = 0
      · rw [if_pos eB, decide_eq_true ⟨fun q => by have := (hl0.mp q).2; omega, eb⟩]
      · rw [if_neg eB]
        cases hL : M.2.1 (4 * (4 + k) + x) with
        | nil =>
          rw [hL] at hb
          simp only [List.length_nil] at hb
          exact (decide_eq_false (fun q => q.1 (hl0.mpr ⟨hL, by omega⟩))).symm
        | cons n rest =>
          dsimp only
          have hne : ¬ (pR P M (4 * (4 + k) + x)).length = 0 := fun q => by
            have := (hl0.mp q).1
            rw [hL] at this
            cases this
          rw [decide_eq_true (show 4 ≤ 4 + k from by omega), Bool.true_or]
          exact (decide_eq_true ⟨hne, eb⟩).symm
  have st : ∀ j, j < qmany M → sX10_handlesAtSink_14 m (zi k) (zi t) (rput σ m A, zi (j : Int)) = if qcan P (4 + k) ((t + j) % qmany M) M = true then some (.inr (.inl (rput σ m A, zi (((t + j) % qmany M : Nat) : Int)))) else some (.inl (rput σ m A, zi (j : Int) + zi 1)) := by
    intro j hj
    have hmd : (t + j) % qmany M < qmany M := Nat.mod_lt _ (by omega)
    have em : ((t : Int) + (j : Int)) % (qmany M : Int) = (((t + j) % qmany M : Nat) : Int) := by push_cast; rfl
    have hbl := hN.2.2.2.2.2.2.2.2.2.2.2.2.2 (4 * (4 + k) + (t + j) % qmany M) (by omega)
    have hlr := (hA.2 (4 * (4 + k) + (t + j) % qmany M) (by omega)).2.1
    rw [rcap_c (by omega)] at hlr
    unfold sX10_handlesAtSink_14 sX10_handlesAtSink_14b
    dsimp only
    rw [rd_now h, Option.bind_some, ra_many h hA hN, Option.bind_some, if_neg (zi_nle (by omega) (by omega) (by omega)), Option.bind_some, ra_many h hA hN, Option.bind_some, znz_zi (by omega) (by omega) (by omega), Option.bind_some, Option.bind_some, zi_add, zi_mod (by omega) (by omega) (by omega) (by omega), em, f_toSink (by omega) (by omega), Option.bind_some, ra_len (4 * (4 + k) + (t + j) % qmany M) h hA rfl (by omega), Option.bind_some, hcan _ hmd]
    by_cases e1 : (pR P M (4 * (4 + k) + (t + j) % qmany M)).length = 0
    · rw [e1, if_pos (show zi ((0 : Nat) : Int) = zi 0 from rfl), decide_eq_false (fun q => q.1 rfl)]
      rfl
    · rw [if_neg (by rw [zi_eq (by omega) (by omega) (by omega) (by omega)]; omega)]
      rw [rd_now h, Option.bind_some, f_channelOut, Option.bind_some, zi_add, ra_S (59 + (2 * ((t + j) % qmany M) + k)) h hA (by omega) (by omega), Option.bind_some, pS_bo (by omega) (by omega)]
      by_cases e2 : M.1 (43 + (4 * (4 + k) + (t + j) % qmany M)) = 1
      · rw [if_pos (by rw [e2]), decide_eq_false (fun q => q.2 e2)]
        rfl
      · rw [if_neg (by rw [zi_eq (by omega) (by omega) (by omega) (by omega)]; exact e2), decide_eq_true ⟨e1, e2⟩, if_pos rfl]
  have hturn : qturn P (4 + k) M = ((List.range (qmany M)).map (fun j => (t + j) % qmany M)).find? (fun x => qcan P (4 + k) x M) := by
    unfold qturn
    rw [hns, ht, Int.toNat_natCast]
  have hlast : zaI (rput σ m A) (m + 4) (zi 41 + zi (k : Int)) = some (zi ((t : Int) - 1)) := by
    have e := pS_turn (M := M) (r := 4 + k) (by omega)
    rw [zi_add, ra_S (37 + (4 + k)) h hA (by omega) (by omega), e, ht]
  by_cases hex : ∃ j, j < qmany M ∧ qcan P (4 + k) ((t + j) % qmany M) M = true
  · have hleast : ∃ j, (j < qmany M ∧ qcan P (4 + k) ((t + j) % qmany M) M = true) ∧ ∀ l, l < j → ¬ (l < qmany M ∧ qcan P (4 + k) ((t + l) % qmany M) M = true) := by
      obtain ⟨j, hj⟩ := hex
      induction j using Nat.strongRecOn with
      | ind j ih =>
        by_cases q : ∃ l, l < j ∧ l < qmany M ∧ qcan P (4 + k) ((t + l) % qmany M) M = true
        · obtain ⟨l, hl1, hl2⟩ := q
          exact ih l hl1 hl2
        · exact ⟨j, hj, fun l hl hq => q ⟨l, hl, hq⟩⟩
    obtain ⟨j, ⟨hj, hcj⟩, hmin⟩ := hleast
    have hmin2 : ∀ l, l < j → qcan P (4 + k) ((t + l) % qmany M) M = false := fun l hl => by
      cases e : qcan P (4 + k) ((t + l) % qmany M) M
      · rfl
      · exact absurd ⟨by omega, e⟩ (hmin l hl)
    have hq : qturn P (4 + k) M = some ((t + j) % qmany M) := by
      rw [hturn]
      exact q_find hmin2 hj hcj
    have key := zloop_run (step := sX10_handlesAtSink_14 m (zi k) (zi t)) j (fun l z => z = (rput σ m A, zi (l : Int))) (fun o => o = .inl (rput σ m A, zi (((t + j) % qmany M : Nat) : Int))) (by
      rintro l z hl rfl
      exact Or.inl ⟨_, by rw [st l (by omega), if_neg (by rw [hmin2 l hl]; decide)], by rw [zi_add]; rfl⟩) (by
      rintro z rfl
      exact ⟨_, by rw [st j hj, if_pos hcj], rfl⟩) (zfuel_lt (by omega)) (s := (rput σ m A, zi 0)) rfl
    obtain ⟨o, e, rfl⟩ := key
    obtain ⟨B, eB, hB⟩ := ra_takesAtSink (i := (t + j) % qmany M) h hs hI hA hno hk (Nat.mod_lt _ (by omega)) hcj hnb
    refine ⟨B, ?_, ?_⟩
    · unfold fX10_handlesAtSink
      rw [rd_now h, Option.bind_some, hlast, Option.bind_some, zi_add, show (t : Int) - 1 + 1 = t from by omega, e, Option.bind_some]
      dsimp only
      rw [rd_ck h, eB, Option.bind_some]
    · unfold qhandle
      rw [hq]
      exact hB
  · have hall : ∀ l, l < qmany M → qcan P (4 + k) ((t + l) % qmany M) M = false := fun l hl => by
      cases e : qcan P (4 + k) ((t + l) % qmany M) M
      · rfl
      · exact absurd ⟨l, hl, e⟩ hex
    have hq : qturn P (4 + k) M = none := by
      rw [hturn]
      exact q_find0 hall
    have key := zloop_run (step := sX10_handlesAtSink_14 m (zi k) (zi t)) (qmany M) (fun l z => z = (rput σ m A, zi (l : Int))) (fun o => o = .inr (rput σ m A)) (by
      rintro l z hl rfl
      exact Or.inl ⟨_, by rw [st l hl, if_neg (by rw [hall l hl]; decide)], by rw [zi_add]; rfl⟩) (by
      rintro z rfl
      refine ⟨_, ?_, rfl⟩
      unfold sX10_handlesAtSink_14 sX10_handlesAtSink_14b
      dsimp only
      rw [rd_now h, Option.bind_some, ra_many h hA hN, Option.bind_some, if_pos (zi_yle (by omega) (by omega) (by omega))]) (zfuel_lt (by omega)) (s := (rput σ m A, zi 0)) rfl
    obtain ⟨o, e, rfl⟩ := key
    refine ⟨A, ?_, ?_⟩
    · unfold fX10_handlesAtSink
      rw [rd_now h, Option.bind_some, hlast, Option.bind_some, zi_add, show (t : Int) - 1 + 1 = t from by omega, e, Option.bind_some]
    · unfold qhandle
      rw [hq]
      exact hA
/-- a loop that looks whether all are so -/
theorem rall {τ : zS} {step : zS × Int32 → Option ((zS × Int32) ⊕ (zS ⊕ zS))} (n : Nat) (p : Nat → Bool) (hs : ∀ i, i < n → step (τ, zi (i : Int)) = if p i = true then some (.inl (τ, zi (i : Int) + zi 1)) else some (.inr (.inl τ))) (he : step (τ, zi (n : Int)) = some (.inr (.inr τ))) (hn : n < 1000000) : zloop step zfuel (τ, zi 0) = some (if (List.range n).all p = true then .inr τ else .inl τ) := by
  have key := zloop_run (step := step) n (fun i z => z = (τ, zi (i : Int)) ∧ ∀ j, j < i → p j = true) (fun o => o = if (List.range n).all p = true then .inr τ else .inl τ) (by
    rintro i z hi ⟨rfl, hp⟩
    cases e : p i
    · refine Or.inr ⟨_, by rw [hs i hi, if_neg (by rw [e]; decide)], ?_⟩
      rw [if_neg]
      intro q
      have := List.all_eq_true.mp q i (List.mem_range.mpr hi)
      rw [e] at this
      cases this
    · refine Or.inl ⟨_, by rw [hs i hi, if_pos e], by rw [zi_add]; rfl, fun j hj => ?_⟩
      by_cases ej : j = i
      · subst ej; exact e
      · exact hp j (by omega)) (by
    rintro z ⟨rfl, hp⟩
    refine ⟨_, he, ?_⟩
    rw [if_pos]
    exact List.all_eq_true.mpr (fun x hx => hp x (List.mem_range.mp hx))) (zfuel_lt hn) (s := (τ, zi 0)) ⟨rfl, fun j hj => by omega⟩
  obtain ⟨o, e, rfl⟩ := key
  exact e
theorem qfull_cnt (hI : qI P M) (h67 : M.1 67 = 1) : qfull P M = ((List.range P.1).all (fun s => decide (M.1 (70 + s) = 1)) && (List.range (qmany M)).all (fun i => decide (qcnt P M i = P.1)) && (List.range P.2.1).all (fun k => decide (qcnt P M (4 + k) = qmany M))) := by
  have h4 := qN_many hI.1.2.1
  have hk2 := hI.1.1.2.2.2.1
  unfold qfull
  rw [decide_eq_true h67, Bool.true_and]
  congr 1
  · congr 1
    rw [Bool.eq_iff_iff]
    simp only [List.all_eq_true, List.mem_range, decide_eq_true_eq]
    constructor
    · intro q i hi
      have := (qcnt_eq hI.1 h67 (r := i) (by omega)).2.2.2
      rw [show qns P M i = P.1 from by unfold qns; rw [if_pos (by omega)]] at this
      exact this.mpr (q i hi)
    · intro q i hi
      have := (qcnt_eq hI.1 h67 (r := i) (by omega)).2.2.2
      rw [show qns P M i = P.1 from by unfold qns; rw [if_pos (by omega)]] at this
      exact this.mp (q i hi)
  · rw [Bool.eq_iff_iff]
    simp only [List.all_eq_true, List.mem_range, decide_eq_true_eq]
    constructor
    · intro q k hk
      have := (qcnt_eq hI.1 h67 (r := 4 + k) (by omega)).2.2.2
      rw [show qns P M (4 + k) = qmany M from by unfold qns; rw [if_neg (by omega)]] at this
      exact this.mpr (q k hk)
    · intro q k hk
      have := (qcnt_eq hI.1 h67 (r := 4 + k) (by omega)).2.2.2
      rw [show qns P M (4 + k) = qmany M from by unfold qns; rw [if_neg (by omega)]] at this
      exact this.mp (q k hk)
theorem ra_isComplete (h : rsh σ m) (hs : rset σ m P) (hI : qI P M) (hA : RM A P M) (h67 : M.1 67 = 1) : fX10_isComplete (rput σ m A) m = some (rput σ m A, zb (qfull P M)) := by
  have hN := hI.1.2.1
  have hP := hI.1.1
  have h4 := qN_many hN
  have hP4 := hP.2.1
  have hk2 := hP.2.2.2.1
  have hO := (hI.1.2.2.2.2.2.1 h67).1
  have l1 := rall (τ := rput σ m A) (step := sX10_isComplete_2 m) P.1 (fun s => decide (M.1 (70 + s) = 1)) (fun i hi => by
    unfold sX10_isComplete_2 sX10_isComplete_2b
    dsimp only
    rw [rd_src h hs, Option.bind_some, if_neg (zi_nle (by omega) (by omega) (by omega)), rd_now h, Option.bind_some, zi_add, ra_S (70 + i) h hA (by omega) (by omega), Option.bind_some, pS_lo (by omega)]
    rcases hO.2.1 i (by omega) with e | e
    · rw [e, if_pos rfl, if_neg (by decide)]
    · rw [e, if_neg (by decide), if_pos (by decide)]) (by
    unfold sX10_isComplete_2 sX10_isComplete_2b
    dsimp only
    rw [rd_src h hs, Option.bind_some, if_pos (zi_yle (by omega) (by omega) (by omega))]) (by omega)
  have l2 := rall (τ := rput σ m A) (step := sX10_isComplete_32 m) (qmany M) (fun i => decide (qcnt P M i = P.1)) (fun i hi => by
    have hq := qcnt_eq hI.1 h67 (r := i) (by omega)
    rw [show qns P M i = P.1 from by unfold qns; rw [if_pos (by omega)]] at hq
    unfold sX10_isComplete_32 sX10_isComplete_32b
    dsimp only
    rw [rd_now h, Option.bind_some, ra_many h hA hN, Option.bind_some, if_neg (zi_nle (by omega) (by omega) (by omega)), rd_ck h, ra_arrivedAt h hA hP hs (by omega), Option.bind_some, rd_src h hs, Option.bind_some]
    dsimp only
    by_cases e : qcnt P M i = P.1
    · rw [if_pos (zi_yle (by omega) (by omega) (by omega)), if_pos (decide_eq_true e)]
    · rw [if_neg (zi_nle (by omega) (by omega) (by omega)), if_neg (by rw [decide_eq_false e]; decide)]) (by
    unfold sX10_isComplete_32 sX10_isComplete_32b
    dsimp only
    rw [rd_now h, Option.bind_some, ra_many h hA hN, Option.bind_some, if_pos (zi_yle (by omega) (by omega) (by omega))]) (by omega)
  have l3 := rall (τ := rput σ m A) (step := sX10_isComplete_64 m) P.2.1 (fun k => decide (qcnt P M (4 + k) = qmany M)) (fun k hk => by
    have hq := qcnt_eq hI.1 h67 (r := 4 + k) (by omega)
    rw [show qns P M (4 + k) = qmany M from by unfold qns; rw [if_neg (by omega)]] at hq
    unfold sX10_isComplete_64 sX10_isComplete_64b
    dsimp only
    rw [rd_snk h hs, Option.bind_some, if_neg (zi_nle (by omega) (by omega) (by omega)), rd_ck h, ra_arrivedAtSink h hA hN (by omega), Option.bind_some, rd_now h, Option.bind_some, ra_many h hA hN, Option.bind_some]
    dsimp only
    by_cases e : qcnt P M (4 + k) = qmany M
    · rw [if_pos (zi_yle (by omega) (by omega) (by omega)), if_pos (decide_eq_true e)]
    · rw [if_neg (zi_nle (by omega) (by omega) (by omega)), if_neg (by rw [decide_eq_false e]; decide)]) (by
    unfold sX10_isComplete_64 sX10_isComplete_64b
    dsimp only
    rw [rd_snk h hs, Option.bind_some, if_pos (zi_yle (by omega) (by omega) (by omega))]) (by omega)
  rw [qfull_cnt hI h67]
  unfold fX10_isComplete
  rw [l1, Option.bind_some]
  cases (List.range P.1).all (fun s => decide (M.1 (70 + s) = 1))
  · exact zrZ_0 _
  · rw [if_pos rfl]
    dsimp only
    rw [l2, Option.bind_some]
    cases (List.range (qmany M)).all (fun i => decide (qcnt P M i = P.1))
    · exact zrZ_0 _
    · rw [if_pos rfl]
      dsimp only
      rw [l3, Option.bind_some]
      cases (List.range P.2.1).all (fun k => decide (qcnt P M (4 + k) = qmany M))
      · exact zrZ_0 _
      · exact zrZ_1 _
end RY
