/-! A tick of the reference. -/
section RK
variable {σ : zS} {m : Nat} {A : Nat → Int32} {S : Nat → Int} {R : Nat → List Int} {P : qP} {M N : qM}
theorem qovers_fold {r : Nat} : qovers P r M = (List.range (qns P M r)).foldl (fun M x => if M.2.2 (4 * r + x) = -1 then M else qover P r x M) M := rfl
theorem ra_oversIn {i : Nat} (h : rsh σ m) (hs : rset σ m P) (hI : qI P M) (hA : RM A P M) (h67 : M.1 67 = 1) (h69 : M.1 69 = 1) (hi : i < qmany M) : ∃ B, zloop (sX10_ticks_91 m (zi i)) zfuel (rput σ m A, zi 0) = some (rput σ m B) ∧ RM B P (qovers P i M) := by
  have h4 := qN_many hI.1.2.1
  have hP4 := hI.1.1.2.1
  have hns : qns P M i = P.1 := by unfold qns; rw [if_pos (by omega)]
  obtain ⟨B, e, N, rfl, hB, -⟩ := rfor (σ := σ) (m := m) (step := sX10_ticks_91 m (zi i)) 0 P.1 (fun t B => ∃ N, N = (List.range t).foldl (fun M x => if M.2.2 (4 * i + x) = -1 then M else qover P i x M) M ∧ RM B P N ∧ qI P N ∧ N.1 67 = 1 ∧ N.1 69 = 1 ∧ N.1 1 = M.1 1) (fun t B _ ht hB => by
    obtain ⟨N, hN, hB, n1, n2, n3, n4⟩ := hB
    have hmN : i < qmany N := by rw [qmany_eq n4]; exact hi
    obtain ⟨C, eC, hC⟩ := ra_overtakesAt h hs n1 hB n2 n3 ht hmN
    refine ⟨C, ?_, _, (q_fold_succ _ t M).symm, by rw [← hN]; exact hC, ?_⟩
    · unfold sX10_ticks_91 sX10_ticks_91b
      dsimp only
      rw [rd_src h hs, Option.bind_some, if_neg (zi_nle (by omega) (by omega) (by omega)), rd_ck h, eC, Option.bind_some]
    · rw [← hN]
      by_cases eb : N.2.2 (4 * i + t) = -1
      · rw [if_pos eb]; exact ⟨n1, n2, n3, n4⟩
      · rw [if_neg eb]
        have sm := (qover_same (P := P) (M := N) (r := i) (x := t) (by omega) (by omega)).1
        have hlc : qlc P N i t := by
          unfold qlc qlr qns
          rw [if_pos (by omega), if_pos (by omega)]
          omega
        exact ⟨qI_over n1 n2 n3 (by omega) hlc eb, by rw [sm _ (by omega)]; exact n2, by rw [sm _ (by omega)]; exact n3, by rw [sm _ (by omega)]; exact n4⟩) (fun B _ => by
    unfold sX10_ticks_91 sX10_ticks_91b
    dsimp only
    rw [rd_src h hs, Option.bind_some, if_pos (zi_yle (by omega) (by omega) (by omega))]) (by omega) (by omega) (x := 0) rfl ⟨M, rfl, hA, hI, h67, h69, rfl⟩
  exact ⟨B, e, by rw [qovers_fold, hns]; exact hB⟩
theorem ra_oversOut {k : Nat} (h : rsh σ m) (hs : rset σ m P) (hI : qI P M) (hA : RM A P M) (h67 : M.1 67 = 1) (h69 : M.1 69 = 1) (hk : k < P.2.1) : ∃ B, zloop (sX10_ticks_159 m (zi k)) zfuel (rput σ m A, zi 0) = some (rput σ m B) ∧ RM B P (qovers P (4 + k) M) := by
  have h4 := qN_many hI.1.2.1
  have hk2 := hI.1.1.2.2.2.1
  have hns : qns P M (4 + k) = qmany M := by unfold qns; rw [if_neg (by omega)]
  have hmany : ∀ (B : Nat → Int32) (N : qM), RM B P N → qI P N → N.1 1 = M.1 1 → zaI (rput σ m B) (m + 4) (zi 1) = some (zi (qmany M)) := fun B N hB hN e => by rw [ra_many h hB hN.1.2.1, qmany_eq e]
  obtain ⟨B, e, N, rfl, hB, -⟩ := rfor (σ := σ) (m := m) (step := sX10_ticks_159 m (zi k)) 0 (qmany M) (fun t B => ∃ N, N = (List.range t).foldl (fun M x => if M.2.2 (4 * (4 + k) + x) = -1 then M else qover P (4 + k) x M) M ∧ RM B P N ∧ qI P N ∧ N.1 67 = 1 ∧ N.1 69 = 1 ∧ N.1 1 = M.1 1) (fun t B _ ht hB => by
    obtain ⟨N, hN, hB, n1, n2, n3, n4⟩ := hB
    have hmN : t < qmany N := by rw [qmany_eq n4]; exact ht
    obtain ⟨C, eC, hC⟩ := ra_overtakesAtSink h hs n1 hB n2 n3 hk hmN
    refine ⟨C, ?_, _, (q_fold_succ _ t M).symm, by rw [← hN]; exact hC, ?_⟩
    · unfold sX10_ticks_159 sX10_ticks_159b
      dsimp only
      rw [rd_now h, Option.bind_some, hmany B N hB n1 n4, Option.bind_some, if_neg (zi_nle (by omega) (by omega) (by omega)), rd_ck h, eC, Option.bind_some]
    · rw [← hN]
      by_cases eb : N.2.2 (4 * (4 + k) + t) = -1
      · rw [if_pos eb]; exact ⟨n1, n2, n3, n4⟩
      · rw [if_neg eb]
        have sm := (qover_same (P := P) (M := N) (r := 4 + k) (x := t) (by omega) (by omega)).1
        have hlc : qlc P N (4 + k) t := by
          unfold qlc qlr qns
          rw [if_neg (by omega), if_neg (by omega)]
          omega
        exact ⟨qI_over n1 n2 n3 (by omega) hlc eb, by rw [sm _ (by omega)]; exact n2, by rw [sm _ (by omega)]; exact n3, by rw [sm _ (by omega)]; exact n4⟩) (fun B hB => by
    obtain ⟨N, hN, hB, n1, n2, n3, n4⟩ := hB
    unfold sX10_ticks_159 sX10_ticks_159b
    dsimp only
    rw [rd_now h, Option.bind_some, hmany B N hB n1 n4, Option.bind_some, if_pos (zi_yle (by omega) (by omega) (by omega))]) (by omega) (by omega) (x := 0) rfl ⟨M, rfl, hA, hI, h67, h69, rfl⟩
  exact ⟨B, e, by rw [qovers_fold, hns]; exact hB⟩
/-- the first phases: barriers, records -/
theorem ra_C (h : rsh σ m) (hs : rset σ m P) (hI : qI P M) (hA : RM A P M) (hno : ¬ qhid M) (hT : 0 ≤ M.1 0 ∧ M.1 0 < 1000000000) : ∃ B, zloop (sX10_ticks_51 m) zfuel (rput σ m A, zi 0) = some (rput σ m B) ∧ RM B P (qtickC P M) := by
  have hP4 := hI.1.1.2.1
  obtain ⟨B, e, N, rfl, hB, -⟩ := rfor (σ := σ) (m := m) (step := sX10_ticks_51 m) 0 P.1 (fun t B => ∃ N, N = (List.range t).foldl (fun M s => qsend P s (qput s M)) M ∧ RM B P N ∧ qI P N ∧ ¬ qhid N ∧ N.1 0 = M.1 0) (fun t B _ ht hB => by
    obtain ⟨N, hN, hB, n1, n2, n3⟩ := hB
    obtain ⟨C, eC, hC⟩ := ra_sends h hs n1 hB n2 (by rw [n3]; exact hT) ht
    have h1 := qI_put n1 ht n2
    have h2 : ¬ qhid (qput t N) := by
      unfold qhid
      rw [qput_same _ (by omega) (by omega), qput_same _ (by omega) (by omega)]
      exact n2
    refine ⟨C, ?_, _, (q_fold_succ _ t M).symm, by rw [← hN]; exact hC, ?_⟩
    · unfold sX10_ticks_51 sX10_ticks_51b
      dsimp only
      rw [rd_src h hs, Option.bind_some, if_neg (zi_nle (by omega) (by omega) (by omega)), rd_ck h, eC, Option.bind_some]
    · rw [← hN]
      refine ⟨qI_send h1 ht, ?_, ?_⟩
      · unfold qhid
        rw [qsend_same _ (by omega) (by omega), qsend_same _ (by omega) (by omega)]
        exact h2
      · rw [qsend_same _ (by omega) (by omega), qput_same _ (by omega) (by omega)]
        exact n3) (fun B _ => by
    unfold sX10_ticks_51 sX10_ticks_51b
    dsimp only
    rw [rd_src h hs, Option.bind_some, if_pos (zi_yle (by omega) (by omega) (by omega))]) (by omega) (by omega) (x := 0) rfl ⟨M, rfl, hA, hI, hno, rfl⟩
  exact ⟨B, e, hB⟩
theorem ra_D (h : rsh σ m) (hs : rset σ m P) (hI : qI P M) (hA : RM A P M) (ho : qovert M = true) : ∃ B, zloop (sX10_ticks_79 m) zfuel (rput σ m A, zi 0) = some (rput σ m B) ∧ RM B P (qtickD P M) := by
  obtain ⟨h67, h69⟩ := qovert_iff.mp ho
  have h4 := qN_many hI.1.2.1
  have hmany : ∀ (B : Nat → Int32) (N : qM), RM B P N → qI P N → N.1 1 = M.1 1 → zaI (rput σ m B) (m + 4) (zi 1) = some (zi (qmany M)) := fun B N hB hN e => by rw [ra_many h hB hN.1.2.1, qmany_eq e]
  obtain ⟨B, e, N, rfl, hB, -⟩ := rfor (σ := σ) (m := m) (step := sX10_ticks_79 m) 0 (qmany M) (fun t B => ∃ N, N = (List.range t).foldl (fun M i => qovers P i M) M ∧ RM B P N ∧ qI P N ∧ N.1 67 = 1 ∧ N.1 69 = 1 ∧ N.1 1 = M.1 1) (fun t B _ ht hB => by
    obtain ⟨N, hN, hB, n1, n2, n3, n4⟩ := hB
    have hmN : t < qmany N := by rw [qmany_eq n4]; exact ht
    obtain ⟨C, eC, hC⟩ := ra_oversIn h hs n1 hB n2 n3 hmN
    obtain ⟨o1, o2, -⟩ := qI_overs n1 n2 n3 (r := t) (by omega) (by unfold qlr; rw [if_pos (by omega)]; exact hmN)
    refine ⟨C, ?_, _, (q_fold_succ _ t M).symm, by rw [← hN]; exact hC, ?_⟩
    · unfold sX10_ticks_79 sX10_ticks_79b
      dsimp only
      rw [rd_now h, Option.bind_some, hmany B N hB n1 n4, Option.bind_some, if_neg (zi_nle (by omega) (by omega) (by omega)), eC, Option.bind_some]
    · rw [← hN]
      exact ⟨o1, by rw [o2 _ (by omega)]; exact n2, by rw [o2 _ (by omega)]; exact n3, by rw [o2 _ (by omega)]; exact n4⟩) (fun B hB => by
    obtain ⟨N, hN, hB, n1, n2, n3, n4⟩ := hB
    unfold sX10_ticks_79 sX10_ticks_79b
    dsimp only
    rw [rd_now h, Option.bind_some, hmany B N hB n1 n4, Option.bind_some, if_pos (zi_yle (by omega) (by omega) (by omega))]) (by omega) (by omega) (x := 0) rfl ⟨M, rfl, hA, hI, h67, h69, rfl⟩
  refine ⟨B, e, ?_⟩
  unfold qtickD
  rw [if_pos ho]
  exact hB
theorem ra_F (h : rsh σ m) (hs : rset σ m P) (hI : qI P M) (hA : RM A P M) (ho : qovert M = true) : ∃ B, zloop (sX10_ticks_149 m) zfuel (rput σ m A, zi 0) = some (rput σ m B) ∧ RM B P (qtickF P M) := by
  obtain ⟨h67, h69⟩ := qovert_iff.mp ho
  have hk2 := hI.1.1.2.2.2.1
  obtain ⟨B, e, N, rfl, hB, -⟩ := rfor (σ := σ) (m := m) (step := sX10_ticks_149 m) 0 P.2.1 (fun t B => ∃ N, N = (List.range t).foldl (fun M k => qovers P (4 + k) M) M ∧ RM B P N ∧ qI P N ∧ N.1 67 = 1 ∧ N.1 69 = 1) (fun t B _ ht hB => by
    obtain ⟨N, hN, hB, n1, n2, n3⟩ := hB
    obtain ⟨C, eC, hC⟩ := ra_oversOut h hs n1 hB n2 n3 ht
    obtain ⟨o1, o2, -⟩ := qI_overs n1 n2 n3 (r := 4 + t) (by omega) (by unfold qlr; rw [if_neg (by omega)]; omega)
    refine ⟨C, ?_, _, (q_fold_succ _ t M).symm, by rw [← hN]; exact hC, ?_⟩
    · unfold sX10_ticks_149 sX10_ticks_149b
      dsimp only
      rw [rd_snk h hs, Option.bind_some, if_neg (zi_nle (by omega) (by omega) (by omega)), eC, Option.bind_some]
    · rw [← hN]
      exact ⟨o1, by rw [o2 _ (by omega)]; exact n2, by rw [o2 _ (by omega)]; exact n3⟩) (fun B _ => by
    unfold sX10_ticks_149 sX10_ticks_149b
    dsimp only
    rw [rd_snk h hs, Option.bind_some, if_pos (zi_yle (by omega) (by omega) (by omega))]) (by omega) (by omega) (x := 0) rfl ⟨M, rfl, hA, hI, h67, h69⟩
  refine ⟨B, e, ?_⟩
  unfold qtickF
  rw [if_pos ho]
  exact hB
theorem ra_E (h : rsh σ m) (hs : rset σ m P) (hI : qI P M) (hA : RM A P M) (hno : ¬ qhid M) (hnb : ∀ r, r < 4 → qNB M r) : ∃ B, zloop (sX10_ticks_119 m) zfuel (rput σ m A, zi 0) = some (rput σ m B) ∧ RM B P (qtickE P M) := by
  have h4 := qN_many hI.1.2.1
  have hmany : ∀ (B : Nat → Int32) (N : qM), RM B P N → qI P N → N.1 1 = M.1 1 → zaI (rput σ m B) (m + 4) (zi 1) = some (zi (qmany M)) := fun B N hB hN e => by rw [ra_many h hB hN.1.2.1, qmany_eq e]
  obtain ⟨B, e, N, rfl, hB, -⟩ := rfor (σ := σ) (m := m) (step := sX10_ticks_119 m) 0 (qmany M) (fun t B => ∃ N, N = (List.range t).foldl (fun M i => qhandle P i M) M ∧ RM B P N ∧ qI P N ∧ ¬ qhid N ∧ N.1 1 = M.1 1 ∧ ∀ r, r < 4 → qNB N r) (fun t B _ ht hB => by
    obtain ⟨N, hN, hB, n1, n2, n4, n5⟩ := hB
    have hmN : t < qmany N := by rw [qmany_eq n4]; exact ht
    obtain ⟨C, eC, hC⟩ := ra_handles h hs n1 hB n2 hmN (n5 t (by omega))
    obtain ⟨o1, o2, o3⟩ := qI_handle n1 n2 (r := t) (by omega) (by unfold qlr; rw [if_pos (by omega)]; exact hmN) (n5 t (by omega))
    refine ⟨C, ?_, _, (q_fold_succ _ t M).symm, by rw [← hN]; exact hC, ?_⟩
    · unfold sX10_ticks_119 sX10_ticks_119b
      dsimp only
      rw [rd_now h, Option.bind_some, hmany B N hB n1 n4, Option.bind_some, if_neg (zi_nle (by omega) (by omega) (by omega)), rd_ck h, eC, Option.bind_some]
    · rw [← hN]
      refine ⟨o1, ?_, by rw [o2 _ (by omega)]; exact n4, fun r hr a b x hx => ?_⟩
      · unfold qhid; rw [o2 118 (by omega), o2 123 (by omega)]; exact n2
      · rw [o2 67 (by omega)] at a
        rw [o2 69 (by omega)] at b
        exact o3 a b _ (n5 r hr a b x hx)) (fun B hB => by
    obtain ⟨N, hN, hB, n1, n2, n4, n5⟩ := hB
    unfold sX10_ticks_119 sX10_ticks_119b
    dsimp only
    rw [rd_now h, Option.bind_some, hmany B N hB n1 n4, Option.bind_some, if_pos (zi_yle (by omega) (by omega) (by omega))]) (by omega) (by omega) (x := 0) rfl ⟨M, rfl, hA, hI, hno, rfl, hnb⟩
  exact ⟨B, e, hB⟩
theorem ra_G (h : rsh σ m) (hs : rset σ m P) (hI : qI P M) (hA : RM A P M) (hno : ¬ qhid M) (hnb : ∀ r, 4 ≤ r → r < 6 → qNB M r) : ∃ B, zloop (sX10_ticks_189 m) zfuel (rput σ m A, zi 0) = some (rput σ m B) ∧ RM B P (qtickG P M) := by
  have hk2 := hI.1.1.2.2.2.1
  obtain ⟨B, e, N, rfl, hB, -⟩ := rfor (σ := σ) (m := m) (step := sX10_ticks_189 m) 0 P.2.1 (fun t B => ∃ N, N = (List.range t).foldl (fun M k => qhandle P (4 + k) M) M ∧ RM B P N ∧ qI P N ∧ ¬ qhid N ∧ ∀ r, 4 ≤ r → r < 6 → qNB N r) (fun t B _ ht hB => by
    obtain ⟨N, hN, hB, n1, n2, n5⟩ := hB
    obtain ⟨C, eC, hC⟩ := ra_handlesAtSink h hs n1 hB n2 ht (n5 (4 + t) (by omega) (by omega))
    obtain ⟨o1, o2, o3⟩ := qI_handle n1 n2 (r := 4 + t) (by omega) (by unfold qlr; rw [if_neg (by omega)]; omega) (n5 (4 + t) (by omega) (by omega))
    refine ⟨C, ?_, _, (q_fold_succ _ t M).symm, by rw [← hN]; exact hC, ?_⟩
    · unfold sX10_ticks_189 sX10_ticks_189b
      dsimp only
      rw [rd_snk h hs, Option.bind_some, if_neg (zi_nle (by omega) (by omega) (by omega)), rd_ck h, eC, Option.bind_some]
    · rw [← hN]
      refine ⟨o1, ?_, fun r hr1 hr a b x hx => ?_⟩
      · unfold qhid; rw [o2 118 (by omega), o2 123 (by omega)]; exact n2
      · rw [o2 67 (by omega)] at a
        rw [o2 69 (by omega)] at b
        exact o3 a b _ (n5 r hr1 hr a b x hx)) (fun B _ => by
    unfold sX10_ticks_189 sX10_ticks_189b
    dsimp only
    rw [rd_snk h hs, Option.bind_some, if_pos (zi_yle (by omega) (by omega) (by omega))]) (by omega) (by omega) (x := 0) rfl ⟨M, rfl, hA, hI, hno, hnb⟩
  exact ⟨B, e, hB⟩
theorem ra_230 (h : rsh σ m) (hA : RM A P M) : ∃ B, jX10_ticks_230 (rput σ m A) m = some (rput σ m B) ∧ RM B P (qS M 0 (M.1 0 + 1)) := by
  refine ⟨_, ?_, RM_set (k0 := 0) (j := 0) (v := M.1 0 + 1) (w := M.1 0 + 1) hA (by omega) (ri_lo (by omega)) (by rw [if_neg (by omega)]; omega)⟩
  unfold jX10_ticks_230
  rw [rd_now h, Option.bind_some, Option.bind_some, ra_S 0 h hA (by omega) (by omega), Option.bind_some, pS_lo (by omega), zi_add, ra_w 0 h (by omega) (by omega), Option.bind_some]
theorem ra_187 (h : rsh σ m) (hs : rset σ m P) (hI : qI P M) (hA : RM A P M) (hno : ¬ qhid M) (hnb : ∀ r, 4 ≤ r → r < 6 → qNB M r) : ∃ B, jX10_ticks_187 (rput σ m A) m = some (rput σ m B) ∧ RM B P (qS (qtickH P (qtickG P M)) 0 ((qtickH P (qtickG P M)).1 0 + 1)) := by
  obtain ⟨B, e, hB⟩ := ra_G h hs hI hA hno hnb
  obtain ⟨g1, g2⟩ := qI_G hI hno hnb
  unfold jX10_ticks_187
  rw [e, Option.bind_some, rd_now h, Option.bind_some, ra_S 67 h hB (by omega) (by omega), Option.bind_some, pS_lo (by omega)]
  unfold qtickH
  rcases g1.1.2.1.2.2.2.2.2.2.2.1 with e67 | e67
  · have : qfull P (qtickG P M) = false := by
      unfold qfull
      rw [decide_eq_false (by omega)]
      rfl
    rw [e67, if_neg (by decide), this, if_neg (by decide)]
    exact ra_230 h hB
  · rw [e67, if_pos rfl, rd_ck h, ra_isComplete h hs g1 hB e67, Option.bind_some]
    dsimp only
    rw [zb_if]
    by_cases ef : qfull P (qtickG P M) = true
    · rw [if_pos ef, if_pos ef, rd_ck h]
      obtain ⟨C, eC, hC⟩ := ra_completes h hB
      rw [eC, Option.bind_some]
      exact ra_230 h hC
    · rw [if_neg ef, if_neg ef]
      exact ra_230 h hB
theorem ra_117 (h : rsh σ m) (hs : rset σ m P) (hI : qI P M) (hA : RM A P M) (hno : ¬ qhid M) (hnb : ∀ r, r < 4 → qNB M r) : ∃ B, jX10_ticks_117 (rput σ m A) m = some (rput σ m B) ∧ RM B P (qS (qtickH P (qtickG P (qtickF P (qtickE P M)))) 0 ((qtickH P (qtickG P (qtickF P (qtickE P M)))).1 0 + 1)) := by
  obtain ⟨B, e, hB⟩ := ra_E h hs hI hA hno hnb
  obtain ⟨g1, g2⟩ := qI_E hI hno hnb
  obtain ⟨f1, f2, f3⟩ := qI_F g1 g2
  have ho := ra_overtakes h hB g1.1.2.1.2.2.2.2.2.2.2.1 (fun q => (g1.1.2.2.2.2.2.1 q).1.1)
  unfold jX10_ticks_117
  rw [e, Option.bind_some, rd_ck h, ho, Option.bind_some]
  dsimp only
  rw [zb_if]
  by_cases eo : qovert (qtickE P M) = true
  · rw [if_pos eo]
    obtain ⟨C, eC, hC⟩ := ra_F h hs g1 hB eo
    rw [eC, Option.bind_some]
    exact ra_187 h hs f1 hC f2 f3
  · rw [if_neg eo]
    have hF : qtickF P (qtickE P M) = qtickE P M := by unfold qtickF; rw [if_neg eo]
    rw [hF] at f1 f2 f3 ⊢
    exact ra_187 h hs f1 hB f2 f3
theorem ra_45 (h : rsh σ m) (hs : rset σ m P) (hI : qI P M) (hA : RM A P M) (hT : 0 ≤ M.1 0 ∧ M.1 0 < 1000000000) : ∃ B, jX10_ticks_45 (rput σ m A) m = some (rput σ m B) ∧ RM B P (qS (qtickH P (qtickG P (qtickF P (qtickE P (qtickD P (qtickC P (qshow P M))))))) 0 ((qtickH P (qtickG P (qtickF P (qtickE P (qtickD P (qtickC P (qshow P M))))))).1 0 + 1)) := by
  obtain ⟨B, e, hB⟩ := ra_shows h hs hI hA
  obtain ⟨b1, b2⟩ := qI_show0 hI
  obtain ⟨C, eC, hC⟩ := ra_C h hs b1 hB b2 (by rw [qshow_S (by omega)]; exact hT)
  obtain ⟨c1, c2⟩ := qI_C b1 b2
  obtain ⟨d1, d2, d3⟩ := qI_D c1 c2
  have ho := ra_overtakes h hC c1.1.2.1.2.2.2.2.2.2.2.1 (fun q => (c1.1.2.2.2.2.2.1 q).1.1)
  unfold jX10_ticks_45
  rw [rd_ck h, e, Option.bind_some, eC, Option.bind_some, rd_ck h, ho, Option.bind_some]
  dsimp only
  rw [zb_if]
  by_cases eo : qovert (qtickC P (qshow P M)) = true
  · rw [if_pos eo]
    obtain ⟨D, eD, hD⟩ := ra_D h hs c1 hC eo
    rw [eD, Option.bind_some]
    exact ra_117 h hs d1 hD d2 d3
  · rw [if_neg eo]
    have hDq : qtickD P (qtickC P (qshow P M)) = qtickC P (qshow P M) := by unfold qtickD; rw [if_neg eo]
    rw [hDq] at d1 d2 d3 ⊢
    exact ra_117 h hs d1 hC d2 d3
theorem ra_ticks (h : rsh σ m) (hs : rset σ m P) (hI : qI P M) (hA : RM A P M) (hT : 0 ≤ M.1 0 ∧ M.1 0 < 1000000000) (h5 : 0 ≤ M.1 5) : ∃ B, fX10_ticks (rput σ m A) m = some (rput σ m B) ∧ RM B P (qtick P M) := by
  have hN := hI.1.2.1
  have hev := hN.2.2.1
  have hIA := qI_A hI ⟨hT.1, h5⟩
  show ∃ B, fX10_ticks (rput σ m A) m = some (rput σ m B) ∧ RM B P (qS (qtickH P (qtickG P (qtickF P (qtickE P (qtickD P (qtickC P (qshow P (qtickA M)))))))) 0 ((qtickH P (qtickG P (qtickF P (qtickE P (qtickD P (qtickC P (qshow P (qtickA M)))))))).1 0 + 1))
  unfold fX10_ticks
  rw [rd_now h, Option.bind_some, ra_S 3 h hA (by omega) (by omega), Option.bind_some, pS_lo (by omega)]
  by_cases e3 : M.1 3 = 0
  · have hq : qtickA M = M := by unfold qtickA; rw [if_neg (fun q => q.1 e3)]
    rw [hq, e3, if_pos (Int32.le_refl _)]
    exact ra_45 h hs hI hA hT
  · rw [if_neg (zi_nle (by omega) (by omega) (by omega)), Option.bind_some, ra_S 0 h hA (by omega) (by omega), Option.bind_some, Option.bind_some, ra_S 3 h hA (by omega) (by omega), Option.bind_some, pS_lo (by omega), pS_lo (by omega), znz_zi e3 (by omega) (by omega), Option.bind_some, zi_mod (by omega) (by omega) (by omega) (by omega)]
    have hmod : 0 ≤ M.1 0 % M.1 3 ∧ M.1 0 % M.1 3 < M.1 3 := ⟨Int.emod_nonneg _ (by omega), Int.emod_lt_of_pos _ (by omega)⟩
    by_cases em : M.1 0 % M.1 3 = 0
    · rw [if_pos (by rw [em]), Option.bind_some, ra_S 67 h hA (by omega) (by omega), Option.bind_some, pS_lo (by omega)]
      rcases hN.2.2.2.2.2.2.2.1 with e67 | e67
      · have hq : qtickA M = qbegin (M.1 4) M := by unfold qtickA; rw [if_pos ⟨e3, em, e67⟩]
        rw [hq] at hIA ⊢
        obtain ⟨B, eB, hB⟩ := ra_begins (o := M.1 4) h hA
        rw [e67, if_pos rfl, Option.bind_some, ra_S 4 h hA (by omega) (by omega), Option.bind_some, pS_lo (by omega), rd_ck h, eB, Option.bind_some]
        exact ra_45 h hs hIA hB (by rw [qbegin_lo (by omega) (by omega) (by omega)]; exact hT)
      · have hq : qtickA M = M := by unfold qtickA; rw [if_neg (fun q => by omega)]
        rw [hq, e67, if_neg (by decide)]
        exact ra_45 h hs hI hA hT
    · have hq : qtickA M = M := by unfold qtickA; rw [if_neg (fun q => em q.2.1)]
      rw [hq, if_neg (by rw [zi_eq (by omega) (by omega) (by omega) (by omega)]; exact em)]
      exact ra_45 h hs hI hA hT
end RK
