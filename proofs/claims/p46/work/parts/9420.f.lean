/-! WHAT THE LAW ASKS, AS MATHEMATICS: what is shown, sums, forecasts. -/
section QF
variable {P : qP} {M : qM}
theorem qL_take {l : List Nat} {i : Nat} (hi : i < l.length) : l.take (i + 1) = l.take i ++ [l.getD i 0] := by
  rw [List.take_add_one, List.getElem?_eq_getElem hi, List.getD_eq_getElem?_getD, List.getElem?_eq_getElem hi]
  rfl
theorem qs_in (hI : qI P M) {j n : Nat} (hj : j < P.2.1) (hn : n ∈ M.2.1 (28 + j)) : n < 800 ∧ qkey P n < 16 ∧ qsk P (qkey P n) = j := by
  have h2 := hI.1.1.2.2.2.1
  have a1 := hI.1.2.2.1 (28 + j) n (by omega) hn
  have e : qch (28 + j) = 28 + j := if_pos (by omega)
  rw [e] at a1
  have h4 := a1.2.2.2 (by omega)
  have h5 : qsk P (qkey P n) < P.2.1 := qsk_lt hI.1.1.2.2.1
  exact ⟨a1.1, qkey_lt a1.1, by omega⟩
/-- what a sink shows of its keys are the first sums -/
theorem qs_shown (hI : qI P M) {j i : Nat} (hj : j < P.2.1) (hi : i < (M.2.1 (28 + j)).length) :
    qres P ((M.2.1 (28 + j)).getD i 0) = qexp P (qkey P ((M.2.1 (28 + j)).getD i 0)) (qf P (qkey P ((M.2.1 (28 + j)).getD i 0)) ((M.2.1 (28 + j)).take (i + 1))).length := by
  have hm : (M.2.1 (28 + j)).getD i 0 ∈ M.2.1 (28 + j) := by
    rw [List.getD_eq_getElem?_getD, List.getElem?_eq_getElem hi]
    exact List.getElem_mem hi
  obtain ⟨n8, k16, ks⟩ := qs_in hI hj hm
  have et := qL_take hi
  generalize (M.2.1 (28 + j)).getD i 0 = n at hm n8 k16 ks et
  have hF := (hI.1.2.2.2.1 _ k16).1.1
  unfold qseq at hF
  rw [ks] at hF
  have eL : M.2.1 (28 + j) = (M.2.1 (28 + j)).take i ++ [n] ++ (M.2.1 (28 + j)).drop (i + 1) := by
    rw [← et, List.take_append_drop]
  have e1 : qf P (qkey P n) ((M.2.1 (28 + j)).take (i + 1)) = qf P (qkey P n) ((M.2.1 (28 + j)).take i) ++ [n] := by
    rw [et, qf_app, qf_pos rfl]
  have e2 : qf P (qkey P n) (M.2.1 (28 + j)) = qf P (qkey P n) ((M.2.1 (28 + j)).take i) ++ n :: qf P (qkey P n) ((M.2.1 (28 + j)).drop (i + 1)) := by
    conv => lhs; rw [eL, qf_app, qf_app, qf_pos rfl]
    rw [List.append_assoc]
    rfl
  rw [e2] at hF
  simp only [List.append_assoc, List.cons_append] at hF
  have h3 := qres_eq hI.1.1 hF
  rw [h3, e1]
  generalize qf P (qkey P n) ((M.2.1 (28 + j)).take i) = pre at hF ⊢
  unfold qexp
  rw [← hF]
  rw [if_pos (by simp only [List.length_append, List.length_cons, List.length_nil]; omega)]
  rw [show pre ++ n :: (qf P (qkey P n) ((M.2.1 (28 + j)).drop (i + 1)) ++ (qf P (qkey P n) (M.2.1 (26 + j)) ++ (qf P (qkey P n) (M.2.1 (24 + j)) ++ (qf P (qkey P n) (M.2.1 (qco P (qkey P n) (qmany M))) ++ (qf P (qkey P n) (M.2.1 (qci (qkey P n) (qmany M))) ++ qfrom P (qkey P n) (M.1 (13 + qkey P n % 4)).toNat))))) = (pre ++ [n]) ++ (qf P (qkey P n) ((M.2.1 (28 + j)).drop (i + 1)) ++ (qf P (qkey P n) (M.2.1 (26 + j)) ++ (qf P (qkey P n) (M.2.1 (24 + j)) ++ (qf P (qkey P n) (M.2.1 (qco P (qkey P n) (qmany M))) ++ (qf P (qkey P n) (M.2.1 (qci (qkey P n) (qmany M))) ++ qfrom P (qkey P n) (M.1 (13 + qkey P n % 4)).toNat))))) from by rw [List.append_assoc]; rfl]
  rw [List.take_left, qsum_app, qsum_one]
theorem qs_none (hI : qI P M) {j k : Nat} (hj : j < P.2.1) (hk : qsk P k ≠ j) (l : List Nat) (hl : ∀ n, n ∈ l → n ∈ M.2.1 (28 + j)) : qf P k l = [] := by
  unfold qf
  rw [List.filter_eq_nil_iff]
  intro n hn e
  have e2 : qkey P n = k := by simpa using e
  have h3 := (qs_in hI hj (hl n hn)).2.2
  rw [e2] at h3
  exact hk h3
/-- how often a key was seen, behind some sinks and some results of the next -/
def qsn (P : qP) (M : qM) (j i k : Nat) : Nat := if qsk P k < j then (qf P k (M.2.1 (28 + qsk P k))).length else if qsk P k = j then (qf P k ((M.2.1 (28 + j)).take i)).length else 0
theorem qsn_0 (k : Nat) : qsn P M 0 0 k = 0 := by
  unfold qsn
  rw [if_neg (by omega)]
  split
  · rfl
  · rfl
theorem qsn_step (hI : qI P M) {j i : Nat} (hj : j < P.2.1) (hi : i < (M.2.1 (28 + j)).length) (k : Nat) : qsn P M j (i + 1) k = qsn P M j i k + if k = qkey P ((M.2.1 (28 + j)).getD i 0) then 1 else 0 := by
  have hm : (M.2.1 (28 + j)).getD i 0 ∈ M.2.1 (28 + j) := by
    rw [List.getD_eq_getElem?_getD, List.getElem?_eq_getElem hi]
    exact List.getElem_mem hi
  have et := qL_take hi
  have ks := (qs_in hI hj hm).2.2
  generalize (M.2.1 (28 + j)).getD i 0 = n at hm et ks
  unfold qsn
  by_cases e : k = qkey P n
  · subst e
    rw [ks, if_neg (Nat.lt_irrefl j), if_neg (Nat.lt_irrefl j), if_pos rfl, if_pos rfl, if_pos rfl, et, qf_app, qf_pos rfl, List.length_append]
    rfl
  · rw [if_neg e, et, qf_app, qf_neg (fun q => e q.symm), List.append_nil]
    rfl
theorem qsn_at (hI : qI P M) {j i : Nat} (hj : j < P.2.1) (hi : i < (M.2.1 (28 + j)).length) : qsn P M j (i + 1) (qkey P ((M.2.1 (28 + j)).getD i 0)) = (qf P (qkey P ((M.2.1 (28 + j)).getD i 0)) ((M.2.1 (28 + j)).take (i + 1))).length := by
  have hm : (M.2.1 (28 + j)).getD i 0 ∈ M.2.1 (28 + j) := by
    rw [List.getD_eq_getElem?_getD, List.getElem?_eq_getElem hi]
    exact List.getElem_mem hi
  unfold qsn
  rw [(qs_in hI hj hm).2.2, if_neg (Nat.lt_irrefl j), if_pos rfl]
theorem qsn_next {j : Nat} (k : Nat) : qsn P M j (M.2.1 (28 + j)).length k = qsn P M (j + 1) 0 k := by
  unfold qsn
  by_cases e : qsk P k < j
  · rw [if_pos e, if_pos (by omega)]
  · rw [if_neg e]
    by_cases e2 : qsk P k = j
    · rw [if_pos e2, if_pos (by omega), e2, List.take_length]
    · rw [if_neg e2, if_neg (by omega)]
      split
      · rfl
      · rfl
theorem qsn_end (hI : qI P M) (k : Nat) : qsn P M P.2.1 0 k = (qf P k (M.2.1 (28 + qsk P k))).length := if_pos (qsk_lt hI.1.1.2.2.1)
theorem qsn_le (hI : qI P M) {j i : Nat} (hj : j ≤ P.2.1) (k : Nat) : qsn P M j i k ≤ 800 := by
  have h2 := hI.1.1.2.2.2.1
  have h5 : qsk P k < P.2.1 := qsk_lt hI.1.1.2.2.1
  unfold qsn
  split
  · exact Nat.le_trans (List.length_filter_le _ _) (qI_len hI (c := 28 + qsk P k) (by omega)).1
  · split
    · refine Nat.le_trans (List.length_filter_le _ _) ?_
      have := (qI_len hI (c := 28 + j) (by omega)).1
      rw [List.length_take]
      omega
    · omega
theorem qsum_le (P : qP) : ∀ l : List Nat, qsum P l ≤ 50 * l.length
  | [] => by simp [qsum]
  | a :: t => by
    have ih := qsum_le P t
    have h : qval P a ≤ 50 := by unfold qval; omega
    unfold qsum at ih ⊢
    simp only [List.map_cons, List.sum_cons, List.length_cons]
    omega
theorem qfrom_len (hP : qPok P) (k : Nat) : (qfrom P k 0).length ≤ 200 := by
  unfold qfrom
  refine Nat.le_trans (List.length_filter_le _ _) ?_
  have := hP.2.2.2.2.1 (k % 4)
  simp only [List.length_map, List.length_range']
  omega
theorem qexp_in (hP : qPok P) (k m : Nat) : -1 ≤ qexp P k m ∧ qexp P k m ≤ 10000 := by
  unfold qexp
  split
  · have h1 := qsum_le P ((qfrom P k 0).take m)
    have h2 := qfrom_len hP k
    have h3 : ((qfrom P k 0).take m).length ≤ (qfrom P k 0).length := by rw [List.length_take]; omega
    omega
  · omega
/-- sums are small -/
theorem qsm_in (hI : qI P M) {k : Nat} (hk : k < 16) : (0 ≤ M.1 (17 + k) ∧ M.1 (17 + k) ≤ 10000) ∧ 0 ≤ M.1 (128 + k) ∧ M.1 (128 + k) ≤ 10000 := by
  have hF := (hI.1.2.2.2.1 k hk).1
  have hG := (hI.1.2.2.2.1 k hk).2
  have hl := qfrom_len hI.1.1 k
  have h1 := qsum_le P (qseq P M k)
  have h2 := qsum_le P (qbase P M k ++ qf P k (M.2.1 (54 + qco P k (qmany M))))
  have l1 : (qseq P M k).length ≤ (qfrom P k 0).length := by
    rw [← hF.1]
    simp only [List.length_append]
    omega
  have l2 : (qbase P M k ++ qf P k (M.2.1 (54 + qco P k (qmany M)))).length ≤ (qfrom P k 0).length := by
    rw [← hG.1]
    simp only [List.length_append]
    omega
  rw [hF.2, hG.2]
  omega
/-- sums over sources -/
def qsS (f : Nat → Int) (n : Nat) : Int := ((List.range n).map f).sum
theorem qsS_0 (f : Nat → Int) : qsS f 0 = 0 := rfl
theorem qsS_succ (f : Nat → Int) (n : Nat) : qsS f (n + 1) = qsS f n + f n := by
  unfold qsS
  rw [List.range_succ, List.map_append, List.sum_append]
  simp
theorem qsS_in {f : Nat → Int} {b : Int} : ∀ {n : Nat}, (∀ i, i < n → 0 ≤ f i ∧ f i ≤ b) → 0 ≤ qsS f n ∧ qsS f n ≤ n * b
  | 0, _ => by rw [qsS_0]; omega
  | n + 1, h => by
    have ih := qsS_in (f := f) (b := b) (n := n) (fun i hi => h i (by omega))
    have h2 := h n (by omega)
    rw [qsS_succ, show ((n + 1 : Nat) : Int) = (n : Int) + 1 from rfl, Int.add_mul, Int.one_mul]
    omega
theorem qps_in (hI : qI P M) (hJ : qJ M) {s : Nat} (hs : s < 4) : 0 ≤ M.1 (124 + s) ∧ M.1 (124 + s) ≤ M.1 (13 + s) ∧ M.1 (13 + s) ≤ P.2.2.1 s ∧ P.2.2.1 s ≤ 200 := by
  have h1 := hI.1.2.1.2.2.2.2.2.1 s hs
  have h2 := hI.1.2.1.2.2.2.2.2.2.1 s hs
  have h3 := hJ.1 s (by omega)
  have h4 := hI.1.1.2.2.2.2.1 s
  omega
theorem qsent_in (hI : qI P M) (hJ : qJ M) : qsS (fun s => M.1 (13 + s)) P.1 ≤ M.1 8 := by
  have h4 := hI.1.1.2.1
  have h := hJ.2.2.1.1
  have a0 := qps_in hI hJ (s := 0) (by omega)
  have a1 := qps_in hI hJ (s := 1) (by omega)
  have a2 := qps_in hI hJ (s := 2) (by omega)
  have a3 := qps_in hI hJ (s := 3) (by omega)
  simp only [Nat.reduceAdd] at a0 a1 a2 a3
  unfold qps at h
  rcases (show P.1 = 0 ∨ P.1 = 1 ∨ P.1 = 2 ∨ P.1 = 3 ∨ P.1 = 4 by omega) with e | e | e | e | e
  all_goals
    rw [e]
    simp only [qsS_succ, qsS_0, Nat.reduceAdd, Nat.add_zero]
    omega
theorem qrisk_S : qrisk P M = qsS (fun s => M.1 (13 + s) - M.1 (124 + s)) P.1 := rfl
theorem qgr_8 (hI : qI P M) : qsS (fun i => (qgroups (qmany M) i : Int)) (qmany M) = 8 := by
  have h := qN_many hI.1.2.1
  generalize qmany M = m at h
  rcases (show m = 1 ∨ m = 2 ∨ m = 3 ∨ m = 4 by omega) with rfl | rfl | rfl | rfl <;> decide
theorem qgr_in (m i : Nat) : 0 ≤ (qgroups m i : Int) ∧ (qgroups m i : Int) ≤ 8 := by
  have : qgroups m i ≤ 8 := by
    unfold qgroups
    refine Nat.le_trans (List.countP_le_length) ?_
    simp
  omega
/-! Forecasts. -/
theorem q6_tick {z : Int} (hI : qI P M) (h : KB z M) : (qtick P M).1 6 = M.1 6 ∨ (qtick P M).1 6 = M.1 6 + 1 := by
  have hA := qI_A hI ⟨h.1.1, h.2.1.1⟩
  have kA : (qtickA M).1 6 = M.1 6 := by
    unfold qtickA
    split <;> rfl
  have kS : (qshow P (qtickA M)).1 6 = (qtickA M).1 6 := qshow_S (by omega)
  obtain ⟨b1, b2⟩ := qI_show0 hA
  obtain ⟨c1, c2⟩ := qI_C b1 b2
  have n2 := qG_C (P := P) (M := qshow P (qtickA M)) hI.1.1
  obtain ⟨d1, d2, d3⟩ := qI_D c1 c2
  have n3 := qG_D c1
  obtain ⟨g1, g2⟩ := qI_E d1 d2 d3
  have n4 := qG_E d1 d2 d3
  obtain ⟨f1, f2, f3⟩ := qI_F g1 g2
  have n5 := qG_F g1
  have n6 := qG_G f1 f2 f3
  have n := (qG_trans n2 (qG_trans n3 (qG_trans n4 (qG_trans n5 n6)))).1 6 (by omega)
  rw [kS, kA] at n
  unfold qtick
  generalize qtickG P (qtickF P (qtickE P (qtickD P (qtickC P (qshow P (qtickA M)))))) = N at n
  dsimp only
  have e6 : ∀ K : qM, (qS K 0 (K.1 0 + 1)).1 6 = K.1 6 := fun K => (show qu K.1 0 (K.1 0 + 1) 6 = K.1 6 from qu_ne (by decide))
  rw [e6]
  unfold qtickH
  split
  · right
    show N.1 6 + 1 = _
    rw [n]
  · left
    exact n
theorem q6_it {z : Int} (hI : qI P M) (h : KB z M) : ∀ n : Nat, M.1 6 ≤ (qit P n M).1 6 ∧ (qit P n M).1 6 ≤ M.1 6 + n
  | 0 => ⟨Int.le_refl _, by show M.1 6 ≤ _; omega⟩
  | n + 1 => by
    obtain ⟨a, b⟩ := qI_it hI h n
    have ih := q6_it hI h n
    have h2 : (qit P (n + 1) M).1 6 = (qit P n M).1 6 ∨ (qit P (n + 1) M).1 6 = (qit P n M).1 6 + 1 := q6_tick a b
    omega
/-- the forecast k: completed in the k-th tick, not ahead of it -/
theorem qcw_at {z : Int} {t : Nat} (hI : qI P M) (h : KB z M) (hJ : qJ M) (ht : t ≤ 500) (hz : z < 900000000) (hc : 0 < qcw P M t) : ∃ k : Nat, qcw P M t = k ∧ 1 ≤ k ∧ k ≤ t ∧ M.1 6 < (qit P k M).1 6 ∧ ∀ i, i < k → (qit P i M).1 6 = M.1 6 := by
  have hn : qcw P M t ≠ -1 := by omega
  have hp := qfind_p (p := qcomp P M) (n := t + 1) hn
  have h6 : 0 ≤ M.1 6 ∧ M.1 6 ≤ z := by
    have a := hJ.2.2.2.1
    have b := h.2.1
    have c := hI.1.2.1.2.2.2.2.2.2.2.1
    omega
  have key : ∀ k, k ≤ 500 → (zi (M.1 6) < zi ((qit P k M).1 6) ↔ M.1 6 < (qit P k M).1 6) := fun k hk => by
    have := q6_it hI h k
    exact zi_lt (by omega) (by omega) (by omega) (by omega)
  unfold qcw qfind at hc ⊢
  unfold qfind at hp
  cases e : (List.range (t + 1)).find? (qcomp P M) with
  | none => rw [e] at hc; exact absurd hc (by decide)
  | some k =>
    rw [e] at hp
    have hp2 : qcomp P M k = true := hp
    have hkt : k < t + 1 := List.mem_range.mp (List.mem_of_find?_eq_some e)
    unfold qcomp at hp2
    rw [Bool.and_eq_true, decide_eq_true_iff, decide_eq_true_iff] at hp2
    refine ⟨k, rfl, hp2.1, by omega, (key k (by omega)).mp hp2.2, fun i hi => ?_⟩
    by_cases e0 : i = 0
    · subst e0; rfl
    have hno : qcomp P M i = false := by
      have h1 := List.find?_eq_some_iff_append.mp e
      obtain ⟨-, as, bs, e1, e2⟩ := h1
      have hik : i ∈ as := by
        have hr : i ∈ List.range (t + 1) := List.mem_range.mpr (by omega)
        rw [e1] at hr
        rcases List.mem_append.mp hr with q | q
        · exact q
        · exfalso
          have hpw := List.pairwise_lt_range (n := t + 1)
          rw [e1] at hpw
          have h9 := (List.pairwise_append.mp hpw).2.1
          rcases List.mem_cons.mp q with q | q
          · omega
          · have := (List.pairwise_cons.mp h9).1 i q
            omega
      have := e2 i hik
      simpa using this
    unfold qcomp at hno
    rw [Bool.and_eq_false_iff, decide_eq_false_iff_not, decide_eq_false_iff_not] at hno
    have := (q6_it hI h i).1
    rcases hno with q | q
    · omega
    · rw [key i (by omega)] at q
      omega
theorem qfail_risk (hI : qI P M) : qrisk P (qfail P M) = 0 := by
  have h4 := hI.1.1.2.1
  rw [qrisk_S]
  have e : ∀ n, n ≤ 4 → qsS (fun s => (qfail P M).1 (13 + s) - (qfail P M).1 (124 + s)) n = 0 := by
    intro n
    induction n with
    | zero => intro _; rfl
    | succ n ih =>
      intro hn
      rw [qsS_succ, ih (by omega)]
      have e1 : (qfail P M).1 (13 + n) = (qshow P M).1 (124 + n) := by
        show (if 13 + n = 67 then (0 : Int) else if 13 + n = 7 then (qshow P M).1 7 + 1 else if 13 ≤ 13 + n ∧ 13 + n < 33 then (qshow P M).1 (13 + n + 111) else if 33 ≤ 13 + n ∧ 13 + n < 67 then 0 else (qshow P M).1 (13 + n)) = _
        rw [if_neg (by omega), if_neg (by omega), if_pos (by omega), show 13 + n + 111 = 124 + n from by omega]
      have e2 : (qfail P M).1 (124 + n) = (qshow P M).1 (124 + n) := by
        show (if 124 + n = 67 then (0 : Int) else if 124 + n = 7 then (qshow P M).1 7 + 1 else if 13 ≤ 124 + n ∧ 124 + n < 33 then (qshow P M).1 (124 + n + 111) else if 33 ≤ 124 + n ∧ 124 + n < 67 then 0 else (qshow P M).1 (124 + n)) = _
        rw [if_neg (by omega), if_neg (by omega), if_neg (by omega), if_neg (by omega)]
      rw [e1, e2]
      omega
  exact e P.1 h4
end QF
