/-! Records and results come and go in the reference's lists. -/
section RV
variable {σ : zS} {m : Nat} {A : Nat → Int32} {S : Nat → Int} {R : Nat → List Int} {P : qP} {M : qM}
theorem RM_add {d n : Nat} (h : rsh σ m) (hA : RM A P M) (hd : d < 78) (hw : d < 24 → rwi (M.2.2 d) (M.2.1 d).length) (hl : (pR P M d).length < rcap d) :
    ∃ B, fX10_adds (rput σ m A) m (zi (rb d)) (zi (qen P (qch d) n)) = some (rput σ m B) ∧ RM B P (M.1, qu M.2.1 d (M.2.1 d ++ [n]), M.2.2) := by
  obtain ⟨B, e, hB⟩ := ra_adds (v := qen P (qch d) n) d h hA rfl hd hl
  refine ⟨B, e, RA_congr hB (fun _ _ => rfl) (fun c hc => ?_)⟩
  by_cases ec : c = d
  · subst ec
    rw [qu_at]
    by_cases h24 : c < 24
    · rw [pR_ch h24, pR_ch h24]
      dsimp only
      rw [qu_at, List.map_append, List.map_singleton, qins_snoc (by rw [List.length_map]; exact hw h24), qch_lo (by omega)]
    · rw [pR_ls (by omega), pR_ls (by omega)]
      dsimp only
      rw [qu_at, List.map_append, List.map_singleton]
  · rw [qu_ne ec]
    refine Eq.symm (pR_same (M := M) ?_ (fun _ => rfl))
    exact qu_ne ec
theorem RM_head {c n : Nat} {rest : List Nat} (h : rsh σ m) (hA : RM A P M) (hc : c < 24) (hL : M.2.1 c = n :: rest) (hb : M.2.2 c ≠ 0) (hw : rwi (M.2.2 c) (rest.length + 1)) :
    fX10_at (rput σ m A) m (zi (rb c)) (zi 0) = some (rput σ m A, zi (qen P c n)) ∧ ∃ B, fX10_removes (rput σ m A) m (zi (rb c)) (zi 0) = some (rput σ m B) ∧ RM B P (M.1, qu M.2.1 c rest, if 0 < M.2.2 c then qu M.2.2 c (M.2.2 c - 1) else M.2.2) := by
  have e1 := pR_ch (P := P) (M := M) hc
  rw [hL, List.map_cons] at e1
  have hlm : (rest.map (qen P c)).length = rest.length := List.length_map ..
  obtain ⟨t1, t2⟩ := qins_tail (b := M.2.2 c) (x := qen P c n) (l := rest.map (qen P c)) hb (by rw [hlm]; exact hw)
  have hlen : 0 < (pR P M c).length := by
    rw [e1, qins_len (by rw [List.length_cons, hlm]; exact hw), List.length_cons]; omega
  obtain ⟨B, e, hB⟩ := ra_removes c 0 h hA rfl (by omega) (y := 0) rfl hlen
  refine ⟨?_, B, e, RA_congr hB (fun _ _ => rfl) (fun d hd => ?_)⟩
  · rw [ra_at c 0 h hA rfl (by omega) (y := 0) rfl hlen, e1, t1]
  · by_cases ed : d = c
    · subst ed
      rw [qu_at, e1, t2, pR_ch hc]
      dsimp only
      rw [qu_at]
      congr 1
      split
      · rw [qu_at]
      · rfl
    · rw [qu_ne ed]
      refine (pR_same (M := M) (qu_ne ed) (fun _ => ?_)).symm
      dsimp only
      split
      · rw [qu_ne ed]
      · rfl
theorem RM_bar {c : Nat} (h : rsh σ m) (hA : RM A P M) (hc : c < 24) (hb : M.2.2 c = 0) :
    fX10_at (rput σ m A) m (zi (rb c)) (zi 0) = some (rput σ m A, zi (-1)) ∧ ∃ B, fX10_removes (rput σ m A) m (zi (rb c)) (zi 0) = some (rput σ m B) ∧ RM B P (M.1, M.2.1, qu M.2.2 c (-1)) := by
  have e1 : pR P M c = -1 :: (M.2.1 c).map (qen P c) := by
    rw [pR_ch hc, hb]
    rfl
  have hlen : 0 < (pR P M c).length := by rw [e1]; exact Nat.succ_pos _
  obtain ⟨B, e, hB⟩ := ra_removes c 0 h hA rfl (by omega) (y := 0) rfl hlen
  refine ⟨?_, B, e, RA_congr hB (fun _ _ => rfl) (fun d hd => ?_)⟩
  · rw [ra_at c 0 h hA rfl (by omega) (y := 0) rfl hlen, e1]
    rfl
  · by_cases ed : d = c
    · subst ed
      rw [qu_at, e1, pR_ch hc]
      dsimp only
      rw [qu_at, qins_none]
      rfl
    · rw [qu_ne ed]
      refine Eq.symm (pR_same (M := M) rfl (fun _ => ?_))
      exact qu_ne ed
theorem qput1_eq {s : Nat} : qput s M = if M.1 67 = 1 ∧ M.1 (70 + s) = 0 ∧ M.1 (9 + s) ≤ M.1 0 - M.1 68 then qput1 s M else M := rfl
theorem zb_if {α : Type} (b : Bool) (x y : α) : (if zb b = zi 0 then x else y) = if b = true then y else x := by
  cases b
  · rfl
  · rw [if_neg (show ¬ zb true = zi 0 from by decide), if_pos rfl]
/-- the second half of sending -/
theorem ra_sends105 {s : Nat} (h : rsh σ m) (hs : rset σ m P) (hI : qI P M) (hA : RM A P M) (hs4 : s < P.1) : ∃ B, jX10_sends_105 (rput σ m A) m (zi s) = some (rput σ m B) ∧ RM B P (qsend P s M) := by
  have hN := hI.1.2.1
  have hP := hI.1.1
  have h4 := qN_many hN
  have hP4 := hP.2.1
  have hrc := hP.2.2.2.2.1 s
  obtain ⟨q, hq⟩ : ∃ q : Nat, M.1 (13 + s) = q := ⟨(M.1 (13 + s)).toNat, by have := (hN.2.2.2.2.2.1 s (by omega)).1; omega⟩
  have hqle := (hN.2.2.2.2.2.1 s (by omega)).2
  rw [hq] at hqle
  have hqr : zaI (rput σ m A) (m + 4) (zi 13 + zi (s : Int)) = some (zi q) := by
    rw [zi_add, ra_S (13 + s) h hA (by omega) (by omega), pS_lo (by omega), hq]
  unfold jX10_sends_105
  rw [rd_now h, Option.bind_some, hqr, Option.bind_some, rd_recs h, Option.bind_some, rd_rec s h hP hs rfl hs4, Option.bind_some]
  have hpost := qI_send (s := s) hI hs4
  unfold qsend at hpost ⊢
  by_cases e : (P.2.2.1 s : Int) ≤ M.1 (13 + s)
  · rw [if_pos e, if_pos (by rw [zi_eq (by omega) (by omega) (by omega) (by omega)]; omega)]
    exact ⟨A, rfl, hA⟩
  · rw [if_neg e] at hpost ⊢
    rw [if_neg (by rw [zi_eq (by omega) (by omega) (by omega) (by omega)]; omega)]
    dsimp only at hpost ⊢
    have hqt : (M.1 (13 + s)).toNat = q := by omega
    rw [hqt] at hpost ⊢
    have hn8 : 200 * s + q < 800 := by omega
    have hk16 := qkey_lt (P := P) hn8
    obtain ⟨w1, w2, w3, w4, w5, w6⟩ := qix hP hN (qkey P (200 * s + q))
    have hB := qI_B hI (c := 4 * qown (qkey P (200 * s + q)) (qmany M) + s) (by omega)
    rw [rd_ck h, f_keyOf h hP hs hs4 (by omega), Option.bind_some, rd_ck h, f_ownerOf h hA hN hk16, Option.bind_some, f_toInstance (by omega) w4, Option.bind_some, rd_ck h, ra_isFull _ h hA rfl (by omega) (qI_rok hI (by omega)) (by rw [pS_lo (by omega)]; have := hN.2.1; omega), Option.bind_some, pR_things hI (by omega), pS_lo (by omega)]
    dsimp only
    rw [zb_if]
    by_cases e2 : M.1 2 ≤ ((M.2.1 (4 * qown (qkey P (200 * s + q)) (qmany M) + s)).length : Int)
    · rw [if_pos e2, if_pos (decide_eq_true e2)]
      exact ⟨A, rfl, hA⟩
    · rw [if_neg e2] at hpost ⊢
      rw [if_neg (by rw [decide_eq_false e2]; decide)]
      have hpl := (qI_len hpost (c := 4 * qown (qkey P (200 * s + q)) (qmany M) + s) (by omega)).2 (by omega)
      dsimp only at hpl
      rw [qu_at, List.length_append, List.length_singleton] at hpl
      obtain ⟨B, eB, hB2⟩ := RM_add (n := 200 * s + q) (d := 4 * qown (qkey P (200 * s + q)) (qmany M) + s) h hA (by omega) (fun _ => qI_B hI (by omega)) (by
        rw [pR_ch (by omega), qins_len (qI_wi hI (by omega) _), List.length_map, rcap_a (by omega)]
        split <;> omega)
      have hqe : qen P (qch (4 * qown (qkey P (200 * s + q)) (qmany M) + s)) (200 * s + q) = (q : Int) := by
        rw [qch_lo (by omega)]
        unfold qen
        rw [if_pos (by omega), show (200 * s + q) % 200 = q from by omega]
      rw [hqe] at eB
      have b1 := RM_set (k0 := 13 + s) (j := 13 + s) (v := (q : Int) + 1) (w := (q : Int) + 1) hB2 (by omega) (ri_lo (by omega)) (by rw [if_neg (by omega)]; omega)
      have b2 := RM_set (k0 := 8) (j := 8) (v := M.1 8 + 1) (w := M.1 8 + 1) b1 (by omega) (ri_lo (by omega)) (by rw [if_neg (by omega)]; omega)
      refine ⟨_, ?_, by rw [hq]; exact b2⟩
      rw [rd_ck h, eB, Option.bind_some, rd_now h, Option.bind_some, zi_add, zi_add, ra_w (13 + s) h (by omega) (by omega), Option.bind_some, rd_now h, Option.bind_some, Option.bind_some, ra_S 8 h b1 (by omega) (by omega), Option.bind_some, pS_lo (by omega)]
      dsimp only
      rw [qu_ne (by omega), zi_add, ra_w 8 h (by omega) (by omega), Option.bind_some]
theorem ra_sends {s : Nat} (h : rsh σ m) (hs : rset σ m P) (hI : qI P M) (hA : RM A P M) (hno : ¬ qhid M) (hT : 0 ≤ M.1 0 ∧ M.1 0 < 1000000000) (hs4 : s < P.1) : ∃ B, fX10_sends (rput σ m A) m (zi s) = some (rput σ m B) ∧ RM B P (qsend P s (qput s M)) := by
  have hN := hI.1.2.1
  have hP := hI.1.1
  have h4 := qN_many hN
  have hP4 := hP.2.1
  have hlag := hN.2.2.2.2.1 s (by omega)
  unfold fX10_sends
  rw [rd_now h, Option.bind_some, ra_S 67 h hA (by omega) (by omega), Option.bind_some, pS_lo (by omega), qput1_eq]
  rcases hN.2.2.2.2.2.2.2.1 with e67 | e67
  · rw [if_neg (by rw [e67]; decide), if_neg (by omega)]
    exact ra_sends105 h hs hI hA hs4
  · have hO := (hI.1.2.2.2.2.2.1 e67).1
    rw [if_pos (by rw [e67]), Option.bind_some, zi_add, ra_S (70 + s) h hA (by omega) (by omega), Option.bind_some, pS_lo (by omega)]
    rcases hO.2.1 s (by omega) with e70 | e70
    · rw [if_pos (by rw [e70]), Option.bind_some, ra_S 0 h hA (by omega) (by omega), Option.bind_some, Option.bind_some, ra_S 68 h hA (by omega) (by omega), Option.bind_some, Option.bind_some, zi_add, ra_S (9 + s) h hA (by omega) (by omega), Option.bind_some, pS_lo (by omega), pS_lo (by omega), pS_lo (by omega), zi_sub]
      have h68 := hO.2.2.2.2.2.2.1
      by_cases el : M.1 (9 + s) ≤ M.1 0 - M.1 68
      · rw [if_neg (by rw [zi_lt (by omega) (by omega) (by omega) (by omega)]; omega), if_pos ⟨e67, e70, el⟩]
        have b1 := RM_set (k0 := 70 + s) (j := 70 + s) (v := 1) (w := 1) hA (by omega) (ri_lo (by omega)) (by rw [if_neg (by omega)]; rfl)
        have b2 := RM_set (k0 := 98 + s) (j := 98 + s) (v := M.1 (13 + s)) (w := M.1 (13 + s)) b1 (by omega) (ri_lo (by omega)) (by rw [if_neg (by omega)]; omega)
        have hBn : ∀ i, i < 4 → M.2.2 (4 * i + s) = -1 := by
          intro i hi
          by_cases hl : qlc P M i s
          · have e1 := (hI.1.2.2.2.2.2.1 e67).2.1.1 i s (by omega) (by omega) hl
            apply Decidable.byContradiction
            intro q
            have := (e1.2.1.mp q).1
            unfold qsrc at this
            rw [if_pos hi] at this
            omega
          · exact (hI.1.2.2.2.2.2.2.1 i s (by omega) (by omega) hl).1
        have hlen : ∀ i, i < 4 → (M.2.1 (4 * i + s)).length ≤ 200 := fun i hi => (qI_len hI (by omega)).2 (by omega)
        obtain ⟨B, eB, hB⟩ := rfor (σ := σ) (m := m) (step := sX10_sends_79 m (zi s)) 0 (qmany M) (fun t B => RM B P ((qput1 s M).1, M.2.1, fun c => if c % 4 = s ∧ c / 4 < t then ((M.2.1 c).length : Int) else M.2.2 c)) (fun t B _ ht hB => by
          have hm1 : zaI (rput σ m B) (m + 4) (zi 1) = some (zi (qmany M)) := by
            rw [ra_S 1 h hB (by omega) (by omega), pS_lo (by omega)]
            dsimp only
            rw [qput1_S (by omega) (by omega)]
            congr 2
            unfold qmany
            have := hN.1
            omega
          have hR : pR P ((qput1 s M).1, M.2.1, fun c => if c % 4 = s ∧ c / 4 < t then ((M.2.1 c).length : Int) else M.2.2 c) (4 * t + s) = (M.2.1 (4 * t + s)).map (qen P (4 * t + s)) := by
            rw [pR_ch (by omega)]
            dsimp only
            rw [if_neg (by omega), hBn t (by omega), qins_none]
          obtain ⟨C, eC, hC⟩ := ra_adds (v := -1) (4 * t + s) h hB rfl (by omega) (by rw [hR, List.length_map, rcap_a (by omega)]; have := hlen t (by omega); omega)
          refine ⟨C, ?_, RA_congr hC (fun _ _ => rfl) (fun c hc => ?_)⟩
          · unfold sX10_sends_79 sX10_sends_79b
            dsimp only
            rw [rd_now h, Option.bind_some, hm1, Option.bind_some, if_neg (zi_nle (by omega) (by omega) (by omega)), f_toInstance (by omega) (by omega), Option.bind_some, rd_ck h, eC, Option.bind_some]
          · by_cases ec : c = 4 * t + s
            · subst ec
              rw [qu_at, hR, pR_ch (by omega)]
              dsimp only
              rw [if_pos (by omega), ← List.length_map (as := M.2.1 (4 * t + s)) (qen P (4 * t + s)), qins_end]
            · rw [qu_ne ec]
              unfold pR
              dsimp only
              split
              · congr 1
                by_cases e3 : c % 4 = s ∧ c / 4 < t
                · rw [if_pos e3, if_pos (by omega)]
                · rw [if_neg e3, if_neg (by omega)]
              · rfl) (fun B hB => by
          have hm1 : zaI (rput σ m B) (m + 4) (zi 1) = some (zi (qmany M)) := by
            rw [ra_S 1 h hB (by omega) (by omega), pS_lo (by omega)]
            dsimp only
            rw [qput1_S (by omega) (by omega)]
            congr 2
            unfold qmany
            have := hN.1
            omega
          unfold sX10_sends_79 sX10_sends_79b
          dsimp only
          rw [rd_now h, Option.bind_some, hm1, Option.bind_some, if_pos (zi_yle (by omega) (by omega) (by omega))]) (by omega) (by omega) (x := 0) rfl (RA_congr b2 (fun _ _ => rfl) (fun c hc => by
            unfold pR
            dsimp only
            split
            · rw [if_neg (by omega)]
            · rfl))
        have hI2 : qI P (qput1 s M) := by
          have := qI_put hI hs4 hno
          rw [qput1_eq, if_pos ⟨e67, e70, el⟩] at this
          exact this
        obtain ⟨C, eC, hC⟩ := ra_sends105 h hs hI2 hB hs4
        refine ⟨C, ?_, hC⟩
        rw [Option.bind_some, ra_w (70 + s) h (by omega) (by omega), Option.bind_some, rd_now h, Option.bind_some, Option.bind_some, zi_add, ra_S (13 + s) h b1 (by omega) (by omega), Option.bind_some, pS_lo (by omega), zi_add]
        dsimp only
        rw [qu_ne (by omega), ra_w (98 + s) h (by omega) (by omega), Option.bind_some, eB, Option.bind_some, eC]
      · rw [if_pos (by rw [zi_lt (by omega) (by omega) (by omega) (by omega)]; omega), if_neg (by omega)]
        exact ra_sends105 h hs hI hA hs4
    · rw [if_neg (by rw [e70]; decide), if_neg (by omega)]
      exact ra_sends105 h hs hI hA hs4
end RV
