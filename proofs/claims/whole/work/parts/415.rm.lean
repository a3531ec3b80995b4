section RX
variable {σ : zS} {m : Nat} {A : Nat → Int32} {S : Nat → Int} {R : Nat → List Int} {P : qP} {M N : qM}
theorem ra_handles {i : Nat} (h : rsh σ m) (hs : rset σ m P) (hI : qI P M) (hA : RM A P M) (hno : ¬ qhid M) (hi : i < qmany M) (hnb : qNB M i) : ∃ B, fX10_handles (rput σ m A) m (zi i) = some (rput σ m B) ∧ RM B P (qhandle P i M) := by
  have hN := hI.1.2.1
  have hP := hI.1.1
  have h4 := qN_many hN
  have hP4 := hP.2.1
  have hP1 := hP.1
  have hns : qns P M i = P.1 := by unfold qns; rw [if_pos (by omega)]
  obtain ⟨t, ht⟩ : ∃ t : Nat, M.1 (37 + i) = t := ⟨(M.1 (37 + i)).toNat, by have := (hN.2.2.2.2.2.2.2.2.2.2.2.1 i (by omega)).1; omega⟩
  have ht4 : t ≤ 4 := by
    have := (hN.2.2.2.2.2.2.2.2.2.2.2.1 i (by omega)).2 (by unfold qlr; rw [if_pos (by omega)]; exact hi)
    rw [hns] at this
    omega
  have st : ∀ j, j < P.1 → sX10_handles_14 m (zi i) (zi t) (rput σ m A, zi (j : Int)) = if qcan P i ((t + j) % P.1) M = true then some (.inr (.inl (rput σ m A, zi (((t + j) % P.1 : Nat) : Int)))) else some (.inl (rput σ m A, zi (j : Int) + zi 1)) := by
    intro j hj
    have hmd : (t + j) % P.1 < P.1 := Nat.mod_lt _ (by omega)
    have em : ((t : Int) + (j : Int)) % (P.1 : Int) = (((t + j) % P.1 : Nat) : Int) := by push_cast; rfl
    unfold sX10_handles_14 sX10_handles_14b
    dsimp only
    rw [rd_src h hs, Option.bind_some, if_neg (zi_nle (by omega) (by omega) (by omega)), Option.bind_some, znz_zi (by omega) (by omega) (by omega), Option.bind_some, zi_add, zi_mod (by omega) (by omega) (by omega) (by omega), em, rd_ck h, ra_canTake h hs hI hA hmd hi, Option.bind_some]
    dsimp only
    rw [zb_if]
  have hturn : qturn P i M = ((List.range P.1).map (fun k => (t + k) % P.1)).find? (fun x => qcan P i x M) := by
    unfold qturn
    rw [hns, ht, Int.toNat_natCast]
  have hlast : zaI (rput σ m A) (m + 4) (zi 37 + zi (i : Int)) = some (zi ((t : Int) - 1)) := by
    rw [zi_add, ra_S (37 + i) h hA (by omega) (by omega), pS_turn (by omega), ht]
  by_cases hex : ∃ j, j < P.1 ∧ qcan P i ((t + j) % P.1) M = true
  · -- the first that can be taken
    have hleast : ∃ j, (j < P.1 ∧ qcan P i ((t + j) % P.1) M = true) ∧ ∀ k, k < j → ¬ (k < P.1 ∧ qcan P i ((t + k) % P.1) M = true) := by
      obtain ⟨j, hj⟩ := hex
      induction j using Nat.strongRecOn with
      | ind j ih =>
        by_cases q : ∃ k, k < j ∧ k < P.1 ∧ qcan P i ((t + k) % P.1) M = true
        · obtain ⟨k, hk1, hk2⟩ := q
          exact ih k hk1 hk2
        · exact ⟨j, hj, fun k hk hq => q ⟨k, hk, hq⟩⟩
    obtain ⟨j, ⟨hj, hcj⟩, hmin⟩ := hleast
    have hmin2 : ∀ k, k < j → qcan P i ((t + k) % P.1) M = false := fun k hk => by
      cases e : qcan P i ((t + k) % P.1) M
      · rfl
      · exact absurd ⟨by omega, e⟩ (hmin k hk)
    have hq : qturn P i M = some ((t + j) % P.1) := by
      rw [hturn]
      exact q_find hmin2 hj hcj
    have key := zloop_run (step := sX10_handles_14 m (zi i) (zi t)) j (fun k z => z = (rput σ m A, zi (k : Int))) (fun o => o = .inl (rput σ m A, zi (((t + j) % P.1 : Nat) : Int))) (by
      rintro k z hk rfl
      exact Or.inl ⟨_, by rw [st k (by omega), if_neg (by rw [hmin2 k hk]; decide)], by rw [zi_add]; rfl⟩) (by
      rintro z rfl
      exact ⟨_, by rw [st j hj, if_pos hcj], rfl⟩) (zfuel_lt (by omega)) (s := (rput σ m A, zi 0)) rfl
    obtain ⟨o, e, rfl⟩ := key
    obtain ⟨B, eB, hB⟩ := ra_takes (s := (t + j) % P.1) h hs hI hA hno (Nat.mod_lt _ (by omega)) hi hcj hnb
    refine ⟨B, ?_, ?_⟩
    · unfold fX10_handles
      rw [rd_now h, Option.bind_some, hlast, Option.bind_some, zi_add, show (t : Int) - 1 + 1 = t from by omega, e, Option.bind_some]
      dsimp only
      rw [rd_ck h, eB, Option.bind_some]
    · unfold qhandle
      rw [hq]
      exact hB
  · have hall : ∀ k, k < P.1 → qcan P i ((t + k) % P.1) M = false := fun k hk => by
      cases e : qcan P i ((t + k) % P.1) M
      · rfl
      · exact absurd ⟨k, hk, e⟩ hex
    have hq : qturn P i M = none := by
      rw [hturn]
      exact q_find0 hall
    have key := zloop_run (step := sX10_handles_14 m (zi i) (zi t)) P.1 (fun k z => z = (rput σ m A, zi (k : Int))) (fun o => o = .inr (rput σ m A)) (by
      rintro k z hk rfl
      exact Or.inl ⟨_, by rw [st k hk, if_neg (by rw [hall k hk]; decide)], by rw [zi_add]; rfl⟩) (by
      rintro z rfl
      refine ⟨_, ?_, rfl⟩
      unfold sX10_handles_14 sX10_handles_14b
      dsimp only
      rw [rd_src h hs, Option.bind_some, if_pos (zi_yle (by omega) (by omega) (by omega))]) (zfuel_lt (by omega)) (s := (rput σ m A, zi 0)) rfl
    obtain ⟨o, e, rfl⟩ := key
    refine ⟨A, ?_, ?_⟩
    · unfold fX10_handles
      rw [rd_now h, Option.bind_some, hlast, Option.bind_some, zi_add, show (t : Int) - 1 + 1 = t from by omega, e, Option.bind_some]
    · unfold qhandle
      rw [hq]
      exact hA
theorem ra_takesAtSink {k i : Nat} (h : rsh σ m) (hs : rset σ m P) (hI : qI P M) (hA : RM A P M) (hno : ¬ qhid M) (hk : k < P.2.1) (hi : i < qmany M) (hc : qcan P (4 + k) i M = true) (hnb : qNB M (4 + k)) : ∃ B, fX10_takesAtSink (rput σ m A) m (zi i) (zi k) = some (rput σ m B) ∧ RM B P (qtake P (4 + k) i M) := by
  have hN := hI.1.2.1
  have hP := hI.1.1
  have h4 := qN_many hN
  have hk2 := hP.2.2.2.1
  have hlc : qlc P M (4 + k) i := by
    unfold qlc qlr qns
    rw [if_neg (by omega), if_neg (by omega)]
    omega
  have hpost := (qI_take hI hno (by omega) hlc hc hnb).1
  have hb := qI_B hI (c := 4 * (4 + k) + i) (by omega)
  unfold fX10_takesAtSink
  unfold qtake at hpost ⊢
  rw [f_toSink (by omega) (by omega), Option.bind_some, rd_ck h]
  by_cases eB : M.2.2 (4 * (4 + k) + i) = 0
  · rw [if_pos eB] at hpost ⊢
    obtain ⟨h0, B, e1, hB⟩ := RM_bar h hA (c := 4 * (4 + k) + i) (by omega) eB
    have h67 : M.1 67 = 1 := by
      rcases hN.2.2.2.2.2.2.2.1 with q | q
      · have := ((hI.1.2.2.2.2.1 q).1 (4 * (4 + k) + i) (by omega)).1; omega
      · exact q
    have h69 : M.1 69 = 0 := by
      rcases (hI.1.2.2.2.2.2.1 h67).1.1 with q | q
      · exact q
      · have := hnb h67 q i (by omega); omega
    have hI2 := qI_num (k := 37 + (4 + k)) (v := (i : Int) + 1) hI (by
      have := hlc.2
      rw [show 37 + (4 + k) - 37 = 4 + k from by omega]
      omega)
    have b1 := RM_set (k0 := 41 + k) (j := 37 + (4 + k)) (v := (i : Int)) (w := (i : Int) + 1) hB (by omega) (by rw [ri_lo (by omega)]; omega) (by rw [if_pos (by omega)])
    have e : ∀ j, j ≠ 37 + (4 + k) → (qS M (37 + (4 + k)) ((i : Int) + 1)).1 j = M.1 j := fun j hj => qu_ne hj
    obtain ⟨C, e2, hC⟩ := ra_alignsAtSink h hs hI2 (by rw [e 67 (by omega)]; exact h67) (by rw [e 69 (by omega)]; exact h69) (by unfold qhid; rw [e 118 (by omega), e 123 (by omega)]; exact hno) hk (by rw [qmany_eq (e 1 (by omega))]; exact hi) eB b1
    refine ⟨C, ?_, hC⟩
    rw [h0, Option.bind_some, rd_ck h, e1, Option.bind_some, rd_now h, Option.bind_some, zi_add, ra_w (41 + k) h (by omega) (by omega), Option.bind_some, if_pos rfl, rd_ck h, e2, Option.bind_some]
  · rw [if_neg eB] at hpost ⊢
    cases hL : M.2.1 (4 * (4 + k) + i) with
    | nil =>
      exfalso
      unfold qcan at hc
      dsimp only at hc
      rw [hL] at hc
      split at hc
      · cases hc
      · cases hc
    | cons n rest =>
      rw [hL] at hpost
      dsimp only at hpost ⊢
      have hat := hI.1.2.2.1 (4 * (4 + k) + i) n (by omega) (by rw [hL]; exact List.mem_cons_self)
      rw [qch_lo (by omega)] at hat
      have hn8 := hat.1
      have hk16 := qkey_lt (P := P) hn8
      rw [hL] at hb
      obtain ⟨h0, B, e1, hB⟩ := RM_head h hA (c := 4 * (4 + k) + i) (by omega) hL eB (by rw [List.length_cons] at hb; exact hb)
      have b1 := RM_set (k0 := 41 + k) (j := 37 + (4 + k)) (v := (i : Int)) (w := (i : Int) + 1) hB (by omega) (by rw [ri_lo (by omega)]; omega) (by rw [if_pos (by omega)])
      dsimp only at b1
      have hqp := qen_pos (P := P) (c := 4 * (4 + k) + i) hn8
      rw [h0, Option.bind_some, rd_ck h, e1, Option.bind_some, rd_now h, Option.bind_some, zi_add, ra_w (41 + k) h (by omega) (by omega), Option.bind_some]
      dsimp only
      rw [if_neg (by rw [zi_m1 (by omega) (by omega)]; omega), rd_ck h]
      unfold qmove at hpost ⊢
      generalize hg : decide (M.1 67 = 1 ∧ M.1 69 = 1 ∧ qcnt P M (4 + k) ≠ 0 ∧ M.1 (74 + (4 * (4 + k) + i)) = 0) = g at hpost ⊢
      have hdest : qdest P (4 + k) n = 24 + k := by unfold qdest; rw [if_neg (by omega)]; omega
      have fin : ∀ (D : Nat → Int32) (N : qM), RM D P N → (N.1 = qu M.1 (37 + (4 + k)) ((i : Int) + 1)) → (∀ d, d < 78 → N.2.1 d = qu (qu M.2.1 (4 * (4 + k) + i) rest) (30 + (4 * (4 + k) + i)) (M.2.1 (30 + (4 * (4 + k) + i)) ++ if g then [n] else []) d) → (∀ d, d < 24 → N.2.2 d = (if 0 < M.2.2 (4 * (4 + k) + i) then qu M.2.2 (4 * (4 + k) + i) (M.2.2 (4 * (4 + k) + i) - 1) else M.2.2) d) →
          ∃ E, jX10_takesAtSink_85 (rput σ m D) m (zi k) (zi (qen P (4 * (4 + k) + i) n)) = some (rput σ m E) ∧ RM E P (qmv P g (4 + k) i n rest M) := by
        intro D N hD n1 n2 n3
        have eo : N.2.1 (24 + k) = M.2.1 (24 + k) := by rw [n2 _ (by omega), qu_ne (by omega), qu_ne (by omega)]
        have hpl := (qI_len hpost (c := qdest P (4 + k) n) (by omega)).1
        rw [qmv_Ld, hdest, List.length_append, List.length_singleton] at hpl
        obtain ⟨E, eE, hE⟩ := RM_add (n := n) (d := 24 + k) h hD (by omega) (fun q => by omega) (by
          have := rcap_b (c := 24 + k) (by omega)
          rw [pR_ls (by omega), List.length_map, eo]
          omega)
        have hqe : qen P (qch (24 + k)) n = qen P (4 * (4 + k) + i) n := by
          rw [qch_lo (by omega)]
          exact qen_ls (by omega) (by omega)
        rw [hqe] at eE
        refine ⟨E, ?_, RM_ext hE (fun j hj => ?_) (fun d hd => ?_) (fun d hd => ?_)⟩
        · unfold jX10_takesAtSink_85
          rw [f_open (by omega), Option.bind_some, rd_ck h, eE, Option.bind_some]
        · unfold qmv
          dsimp only
          rw [if_neg (show ¬ 4 + k < 4 from by omega), n1]
        · unfold qmv
          dsimp only
          rw [hdest, eo]
          by_cases ed : d = 24 + k
          · subst ed; rw [qu_at, qu_at]
          · rw [qu_ne ed, qu_ne ed, n2 d hd]
        · rw [n3 d hd]
          rfl
      have c0 : qcnt P ((qu M.1 (37 + (4 + k)) ((i : Int) + 1), qu M.2.1 (4 * (4 + k) + i) rest, if 0 < M.2.2 (4 * (4 + k) + i) then qu M.2.2 (4 * (4 + k) + i) (M.2.2 (4 * (4 + k) + i) - 1) else M.2.2) : qM) (4 + k) = qcnt P M (4 + k) := qcnt_same (qu_ne (by omega)) (fun x _ => qu_ne (by omega))
      have hN2 : qN P ((qu M.1 (37 + (4 + k)) ((i : Int) + 1), qu M.2.1 (4 * (4 + k) + i) rest, if 0 < M.2.2 (4 * (4 + k) + i) then qu M.2.2 (4 * (4 + k) + i) (M.2.2 (4 * (4 + k) + i) - 1) else M.2.2) : qM) := by
        have := (qI_num (k := 37 + (4 + k)) (v := (i : Int) + 1) hI (by
          have := hlc.2
          rw [show 37 + (4 + k) - 37 = 4 + k from by omega]
          omega)).1.2.1
        exact this
      have ho := ra_overtakes h b1 (by dsimp only; rw [qu_ne (by omega)]; exact hN.2.2.2.2.2.2.2.1) (fun q => by
        dsimp only at q ⊢
        rw [qu_ne (by omega)] at q ⊢
        exact (hI.1.2.2.2.2.2.1 q).1.1)
      have hov : qovert ((qu M.1 (37 + (4 + k)) ((i : Int) + 1), qu M.2.1 (4 * (4 + k) + i) rest, if 0 < M.2.2 (4 * (4 + k) + i) then qu M.2.2 (4 * (4 + k) + i) (M.2.2 (4 * (4 + k) + i) - 1) else M.2.2) : qM) = qovert M := by
        have q1 : qu M.1 (37 + (4 + k)) ((i : Int) + 1) 67 = M.1 67 := qu_ne (by omega)
        have q2 : qu M.1 (37 + (4 + k)) ((i : Int) + 1) 69 = M.1 69 := qu_ne (by omega)
        unfold qovert
        simp only [q1, q2]
      rw [ho, Option.bind_some, hov]
      dsimp only
      have nokeep : g = false → ∃ E, jX10_takesAtSink_85 (rput σ m (qu B (41 + k) (zi i))) m (zi k) (zi (qen P (4 * (4 + k) + i) n)) = some (rput σ m E) ∧ RM E P (qmv P g (4 + k) i n rest M) := by
        intro q
        refine fin _ _ b1 rfl (fun d hd => ?_) (fun d _ => rfl)
        rw [q]
        simp only [Bool.false_eq_true, if_false, List.append_nil]
        by_cases ed : d = 30 + (4 * (4 + k) + i)
        · subst ed; rw [qu_at, qu_ne (by omega)]
        · rw [qu_ne (j := d) ed]
      rw [zb_if]
      by_cases e3 : qovert M = true
      · obtain ⟨h67, h69⟩ := qovert_iff.mp e3
        have hqq := qcnt_eq hI.1 h67 (r := 4 + k) (by omega)
        have hns4 := qns_le hP hN (4 + k)
        rw [if_pos e3, rd_ck h, ra_arrivedAtSink h b1 hN2 (by omega), Option.bind_some, c0]
        dsimp only
        by_cases e4 : qcnt P M (4 + k) = 0
        · rw [if_pos (by rw [e4]; exact Int32.le_refl _)]
          exact nokeep (by rw [← hg]; exact decide_eq_false (fun q => q.2.2.1 e4))
        · rw [if_neg (zi_nle (by omega) (by omega) (by omega)), rd_now h, Option.bind_some, f_channelOut, Option.bind_some, zi_add, ra_S (90 + (2 * i + k)) h b1 (by omega) (by omega), Option.bind_some, pS_ao (by omega) (by omega)]
          have q1 : qu M.1 (37 + (4 + k)) ((i : Int) + 1) (74 + (4 * (4 + k) + i)) = M.1 (74 + (4 * (4 + k) + i)) := qu_ne (by omega)
          simp only [q1]
          rcases (hI.1.2.2.2.2.2.1 h67).1.2.2.1 (4 * (4 + k) + i) (by omega) with e5 | e5
          · have hgt : g = true := by rw [← hg]; exact decide_eq_true ⟨h67, h69, e4, e5⟩
            have hpk := (qI_lenF hpost (f := 30) (Or.inl ⟨rfl, by rw [qmv_S (by omega) (by omega) (by omega)]; exact h67⟩) (c := 4 * (4 + k) + i) (by omega)).1
            rw [qmv_Lk (by omega), hgt, List.length_append] at hpk
            simp only [if_true, List.length_singleton] at hpk
            obtain ⟨C, eC, hC⟩ := RM_add (n := n) (d := 30 + (4 * (4 + k) + i)) h b1 (by omega) (fun q => by omega) (by
              have := rcap_b (c := 30 + (4 * (4 + k) + i)) (by omega)
              rw [pR_ls (by omega), List.length_map]
              dsimp only
              rw [qu_ne (by omega)]
              omega)
            have hqk : qen P (qch (30 + (4 * (4 + k) + i))) n = qen P (4 * (4 + k) + i) n := by
              unfold qch
              rw [if_neg (by omega), if_pos (by omega), show 30 + (4 * (4 + k) + i) - 30 = 4 * (4 + k) + i from by omega]
            rw [hqk] at eC
            obtain ⟨E, eE, hE⟩ := fin C _ hC rfl (fun d hd => by
              dsimp only
              rw [hgt, qu_ne (show 30 + (4 * (4 + k) + i) ≠ 4 * (4 + k) + i from by omega)]
              rfl) (fun d _ => rfl)
            refine ⟨E, ?_, hE⟩
            rw [e5, if_pos rfl, f_keptOut (by omega) (by omega), Option.bind_some, rd_ck h, eC, Option.bind_some]
            exact eE
          · rw [e5, if_neg (by decide)]
            exact nokeep (by rw [← hg]; exact decide_eq_false (fun q => by have := q.2.2.2; omega))
      · rw [if_neg e3]
        exact nokeep (by rw [← hg]; exact decide_eq_false (fun q => e3 (qovert_iff.mpr ⟨q.1, q.2.1⟩)))
end RX
