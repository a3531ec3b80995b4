section RQq
variable {σ : zS} {m : Nat} {A : Nat → Int32} {P : qP} {M K : qM} {n : Nat}
theorem xAll_4 (D : Nat → List Nat) : xAll D 4 0 = (List.range 4).flatMap D := by
  unfold xAll
  rw [List.take_zero, List.append_nil]
/-- what is dealt out is what each channel gets -/
theorem xSt_part (hP : qPok P) {c : Nat} (hc : c < 24) : (xSt P n K (xT P K P.1) (xU P K P.2.1)).2.1 (30 + c) = qpart P n (fun d => K.2.1 (54 + d)) c := by
  have hk2 := hP.2.2.2.1
  by_cases e : c < 16
  · obtain ⟨i, s, hi, hs, rfl⟩ : ∃ i s, i < 4 ∧ s < 4 ∧ c = 4 * i + s := ⟨c / 4, c % 4, by omega, by omega, by omega⟩
    rw [xSt_i hs hi]
    unfold qpart xT
    rw [if_pos (show 4 * i + s < 16 from by omega), show (4 * i + s) % 4 = s from by omega, show (4 * i + s) / 4 = i from by omega]
    by_cases e2 : s < P.1
    · rw [if_pos e2, if_pos e2, xAll_4]; rfl
    · rw [if_neg e2, if_neg e2]; rfl
  · obtain ⟨k, i, hk, hi, rfl⟩ : ∃ k i, k < 2 ∧ i < 4 ∧ c = 4 * (4 + k) + i := ⟨c / 4 - 4, c % 4, by omega, by omega, by omega⟩
    rw [xSt_o hk hi]
    unfold qpart xU
    rw [if_neg e, show (4 * (4 + k) + i) % 4 = i from by omega, show (4 * (4 + k) + i) / 4 = 4 + k from by omega, show 4 + k - 4 = k from by omega]
    by_cases e2 : k < P.2.1
    · rw [if_pos e2, if_pos e2, xAll_4]; rfl
    · rw [if_neg e2, if_neg e2]; rfl
def qmoved (a b : Nat) : Nat := (List.range 8).countP (fun g => !(g * a / 8 == g * b / 8))
theorem qres_L {c : Nat} (hc : c < 24) : (qrescale P n M).2.1 c = qpart P n (fun d => (qfail P M).2.1 (54 + d)) c := by
  unfold qrescale
  dsimp only
  rw [if_pos hc]
theorem qres_D {c : Nat} (hc : c < 24) : (qrescale P n M).2.1 (54 + c) = qpart P n (fun d => (qfail P M).2.1 (54 + d)) c := by
  unfold qrescale
  dsimp only
  rw [if_neg (by omega), if_pos (by omega), show 54 + c - 54 = c from by omega]
theorem qI_many (hI : qI P M) : M.1 1 = (qmany M : Int) := by
  unfold qmany
  have := hI.1.2.1.1
  omega
theorem xOk_of (hI : qI P M) (hn : 1 ≤ n ∧ n ≤ 4) : xOk P n ((qu (qfail P M).1 1 n, (qfail P M).2) : qM) := by
  have hP := hI.1.1
  have hF := qI_fail hI
  have hR := qI_rescale (m := n) hI hn
  have hP4 := hP.2.1
  have hk2 := hP.2.2.2.1
  refine ⟨qu_at (qfail P M).1 1 (n : Int), hn.1, hn.2, fun c r hc hr => ?_, fun c hc => ?_, fun s i hs hi => ?_, fun k i hk hi => ?_⟩
  · have ha := qI_atF hF (Or.inr rfl) hc hr
    exact ⟨ha.1, fun h16 => by have := ha.2.1 h16; have := ha.1; omega⟩
  · have := qI_doneCap hF hc
    have e : rcap c ≤ rcap (54 + c) := by
      by_cases e : c < 16
      · rw [rcap_a (by omega), rcap_a (by omega)]; exact Nat.le_refl _
      · rw [rcap_c (by omega)]
        unfold rcap
        rw [if_neg (by omega), if_neg (by omega), if_neg (by omega), if_neg (by omega), if_neg (by omega), if_neg (by omega)]
        exact Nat.le_refl _
    exact Nat.le_trans this e
  · rw [xAll_4]
    by_cases e : s < P.1
    · have := (qI_len hR (c := 4 * i + s) (by omega)).2 (by omega)
      rw [qres_L (by omega)] at this
      unfold qpart at this
      rw [if_pos (by omega), show (4 * i + s) % 4 = s from by omega, if_pos e, show (4 * i + s) / 4 = i from by omega] at this
      exact this
    · have : ∀ j, j < 4 → (qfail P M).2.1 (54 + (4 * j + s)) = [] := by
        intro j hj
        cases hL : (qfail P M).2.1 (54 + (4 * j + s)) with
        | nil => rfl
        | cons r t =>
          exfalso
          have hat := qI_atF hF (Or.inr rfl) (c := 4 * j + s) (n := r) (by omega) (by rw [hL]; exact List.mem_cons_self)
          have hk16 := qkey_lt (P := P) hat.1
          have hG := (hF.1.2.2.2.1 _ hk16).2.1
          have hkm := qkey_mod (P := P) hat.1
          have h8 := hat.1
          have h21 := hat.2.1 (by omega)
          have hin : r ∈ qfrom P (qkey P r) 0 := by
            rw [← hG]
            simp only [List.mem_append]
            refine Or.inl (Or.inr ?_)
            rw [qf_mem]
            refine ⟨?_, rfl⟩
            rcases qat_ch hat (by omega) with q | q
            · rw [← q, hL]; exact List.mem_cons_self
            · have := qco_eq P (qkey P r) (qmany (qfail P M)); omega
          rw [qfrom_end (by rw [hP.2.2.2.2.2.1 _ (by omega)]; exact Nat.zero_le _)] at hin
          cases hin
      have e0 : (List.range 4).flatMap (fun i => (qfail P M).2.1 (54 + (4 * i + s))) = [] := by
        rw [List.flatMap_eq_nil_iff]
        intro j hj
        exact this j (List.mem_range.mp hj)
      show (xOwn P n i ((List.range 4).flatMap (fun i => (qfail P M).2.1 (54 + (4 * i + s))))).length ≤ 200
      rw [e0]
      exact Nat.zero_le _
  · rw [xAll_4]
    by_cases e : k < P.2.1
    · have := (qI_len hR (c := 4 * (4 + k) + i) (by omega)).1
      rw [qres_L (by omega)] at this
      unfold qpart at this
      rw [if_neg (by omega), show (4 * (4 + k) + i) / 4 = 4 + k from by omega, show 4 + k - 4 = k from by omega, if_pos e, show (4 * (4 + k) + i) % 4 = i from by omega] at this
      exact this
    · have : ∀ j, j < 4 → (qfail P M).2.1 (54 + (4 * (4 + k) + j)) = [] := by
        intro j hj
        cases hL : (qfail P M).2.1 (54 + (4 * (4 + k) + j)) with
        | nil => rfl
        | cons r t =>
          exfalso
          have hat := qI_atF hF (Or.inr rfl) (c := 4 * (4 + k) + j) (n := r) (by omega) (by rw [hL]; exact List.mem_cons_self)
          have := hat.2.2.1 (by omega) (by omega)
          have h2 := qsk_lt (P := P) (k := qkey P r) hP.2.2.1
          have h3 := qix hP hF.1.2.1 (qkey P r)
          omega
      have e0 : (List.range 4).flatMap (fun i => (qfail P M).2.1 (54 + (4 * (4 + k) + i))) = [] := by
        rw [List.flatMap_eq_nil_iff]
        intro j hj
        exact this j (List.mem_range.mp hj)
      show (xOwn P n i ((List.range 4).flatMap (fun i => (qfail P M).2.1 (54 + (4 * (4 + k) + i))))).length ≤ 800
      rw [e0]
      exact Nat.zero_le _
theorem ra_parts (h : rsh σ m) (hs : rset σ m P) (hI : qI P M) (hn : 1 ≤ n ∧ n ≤ 4) (hA : RM A P ((qu (qfail P M).1 1 n, (qfail P M).2) : qM)) : ∃ B, fX10_parts (rput σ m A) m = some (rput σ m B) ∧ RM B P (qrescale P n M) := by
  have hP := hI.1.1
  have hR := qI_rescale (m := n) hI hn
  have hK := xOk_of (n := n) hI hn
  generalize hKe : ((qu (qfail P M).1 1 n, (qfail P M).2) : qM) = K at hA hK
  have hKL : ∀ c, K.2.1 c = (qfail P M).2.1 c := fun c => by rw [← hKe]
  have h0 : RM A P (xSt P n K (xT P K 0) (xU P K 0)) := RM_ext hA (fun _ _ => rfl) (fun c hc => by
    unfold xSt
    dsimp only
    have hke : 30 ≤ c ∧ c < 54 → K.2.1 c = [] := fun q => by
      rw [hKL]
      unfold qfail
      dsimp only
      rw [if_neg (by omega), if_neg (by omega), if_pos (by omega)]
    by_cases c1 : 30 ≤ c ∧ c < 46
    · rw [if_pos c1, hke (by omega)]; rfl
    · rw [if_neg c1]
      by_cases c2 : 46 ≤ c ∧ c < 54
      · rw [if_pos c2, hke (by omega)]; rfl
      · rw [if_neg c2]) (fun _ _ => rfl)
  obtain ⟨B1, e1, b1⟩ := ra_partsA h hP hs hK h0
  obtain ⟨B2, e2, b2⟩ := ra_partsB h hP hs hK b1
  obtain ⟨B3, e3, b3⟩ := ra_laysKept h b2
  obtain ⟨B4, e4, b4⟩ := ra_emptiesKept h b3
  generalize hR0 : pR P (xSt P n K (xT P K P.1) (xU P K P.2.1)) = R0 at b3 b4
  have r30 : ∀ c, c < 24 → R0 (30 + c) = (qpart P n (fun d => (qfail P M).2.1 (54 + d)) c).map (qen P c) := by
    intro c hc
    rw [← hR0, pR_kept hc, xSt_part hP hc]
    congr 2
    funext d
    exact hKL _
  have r54 : ∀ c, c < 24 → Rt 30 24 (fun _ => []) (Rt 54 24 (fun c => R0 (30 + c)) R0) (54 + c) = (qpart P n (fun d => (qfail P M).2.1 (54 + d)) c).map (qen P c) := by
    intro c hc
    rw [Rt_out (by omega), Rt_all hc, r30 c hc]
  obtain ⟨B5, e5, b5⟩ := ra_laysDone h b4 (fun c hc => by
    rw [r54 c hc, List.length_map, ← qres_D (M := M) hc]
    exact qI_doneCap hR hc)
  refine ⟨B5, ?_, RA_congr b5 (fun k hk => ?_) (fun c hc => ?_)⟩
  · unfold fX10_parts
    rw [e1, Option.bind_some, e2, Option.bind_some, rd_ck h, e3, Option.bind_some, rd_ck h, e4, Option.bind_some, rd_ck h, e5, Option.bind_some]
  · refine pS_same (fun j hj => ?_) k hk
    show K.1 j = _
    rw [← hKe]
    rfl
  · by_cases c1 : c < 24
    · have e := Rt_all (b := 0) (c := c) (F := fun c => Rt 30 24 (fun _ => []) (Rt 54 24 (fun c => R0 (30 + c)) R0) (54 + c)) (R := Rt 30 24 (fun _ => []) (Rt 54 24 (fun c => R0 (30 + c)) R0)) c1
      rw [Nat.zero_add] at e
      rw [e, r54 c c1, pR_ch c1, qres_L c1]
      show _ = qins (-1) _
      rw [qins_none]
    · rw [Rt_out (by omega)]
      by_cases c2 : 30 ≤ c ∧ c < 54
      · obtain ⟨d, rfl⟩ : ∃ d, c = 30 + d := ⟨c - 30, by omega⟩
        rw [Rt_all (by omega), pR_ls (by omega)]
        unfold qrescale
        dsimp only
        rw [if_neg (by omega), if_neg (by omega)]
        unfold qfail
        dsimp only
        rw [if_neg (by omega), if_neg (by omega), if_pos (by omega)]
        rfl
      · rw [Rt_out (by omega)]
        by_cases c3 : 54 ≤ c
        · obtain ⟨d, rfl⟩ : ∃ d, c = 54 + d := ⟨c - 54, by omega⟩
          rw [Rt_all (by omega), r30 d (by omega), pR_done (by omega), qres_D (by omega)]
        · rw [Rt_out (by omega), ← hR0, pR_ls (by omega), pR_ls (by omega), xSt_n (by omega), hKL]
          congr 1
          unfold qrescale
          dsimp only
          rw [if_neg (by omega), if_neg (by omega)]
theorem ra_rescales (h : rsh σ m) (hs : rset σ m P) (hI : qI P M) (hA : RM A P M) (hn : 1 ≤ n ∧ n ≤ 4) : ∃ B, fX10_rescales (rput σ m A) m (zi n) = some (rput σ m B, zi (qmoved (qmany M) n)) ∧ RM B P (qrescale P n M) := by
  obtain ⟨A1, e1, a1⟩ := ra_fails h hs hI hA
  have hF := qI_fail hI
  have hmm : qmany (qfail P M) = qmany M := by
    refine qmany_eq ?_
    unfold qfail
    dsimp only
    rw [if_neg (by omega), if_neg (by omega), if_neg (by omega), if_neg (by omega), qshow_S (by omega)]
  have h4 := qN_many hI.1.2.1
  have a2 := RM_set (k0 := 1) (j := 1) (v := (n : Int)) (w := (n : Int)) a1 (by omega) (ri_lo (by omega)) (by rw [if_neg (by omega)]; omega)
  obtain ⟨B, e2, b2⟩ := ra_parts h hs hI hn a2
  have key := zloop_run (step := sX10_rescales_27 (zi n) (zi (qmany M))) 8 (fun g z => z = (rput σ m B, zi ((List.range g).countP (fun g => !(g * qmany M / 8 == g * n / 8))), zi (g : Int))) (fun o => o = (rput σ m B, zi (qmoved (qmany M) n))) (by
    rintro g z hg rfl
    refine Or.inl ⟨(rput σ m B, zi ((List.range (g + 1)).countP (fun g => !(g * qmany M / 8 == g * n / 8))), zi ((g + 1 : Nat) : Int)), ?_, rfl⟩
    have b1 : g * qmany M / 8 < 1000 := by
      have := Nat.mul_le_mul (show g ≤ 8 from by omega) h4.2
      omega
    have b2 : g * n / 8 < 1000 := by
      have := Nat.mul_le_mul (show g ≤ 8 from by omega) hn.2
      omega
    have hc : (List.range (g + 1)).countP (fun g => !(g * qmany M / 8 == g * n / 8)) = (List.range g).countP (fun g => !(g * qmany M / 8 == g * n / 8)) + if g * qmany M / 8 = g * n / 8 then 0 else 1 := by
      rw [List.range_succ, List.countP_append]
      congr 1
      by_cases q : g * qmany M / 8 = g * n / 8
      · rw [if_pos q]; simp [q]
      · rw [if_neg q]; simp [q]
    unfold sX10_rescales_27 sX10_rescales_27b
    dsimp only
    rw [if_neg (zi_nle (by omega) (by omega) (by omega)), f_ownerAmong (by omega) h4.2, Option.bind_some, f_ownerAmong (by omega) hn.2, Option.bind_some, hc]
    dsimp only
    unfold jX10_rescales_53_L27
    by_cases q : g * qmany M / 8 = g * n / 8
    · rw [if_pos (by rw [q]), if_pos q, zi_add]; rfl
    · rw [if_neg (by rw [zi_eq (by omega) (by omega) (by omega) (by omega)]; omega), if_neg q, zi_add, zi_add]; rfl) (by
    rintro z rfl
    refine ⟨_, ?_, rfl⟩
    unfold sX10_rescales_27 sX10_rescales_27b
    dsimp only
    rw [if_pos (zi_yle (by omega) (by omega) (by omega))]
    rfl) (zfuel_lt (by omega)) (s := (rput σ m B, zi 0, zi 0)) rfl
  obtain ⟨o, e3, rfl⟩ := key
  refine ⟨B, ?_, b2⟩
  unfold fX10_rescales
  rw [rd_ck h, e1, Option.bind_some, rd_now h, Option.bind_some, ra_many h a1 hF.1.2.1, Option.bind_some, Option.bind_some, hmm, ra_w 1 h (by omega) (by omega), Option.bind_some, rd_ck h, e2, Option.bind_some, e3, Option.bind_some]
end RQq
