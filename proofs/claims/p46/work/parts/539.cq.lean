/-! The class's queries: sources, records, keys, workers, sinks. -/
section CQ2
variable {σ : zS} {X w b sz q : Nat} {P : qP} {M : qM} {nm : Nat → List Int32} {sv : Bool} {tx ou : List Int32} {er ea : Int} {V : Nat → Nat → Int32}
theorem CR_sush (hR : CR σ X w P nm sv sz q tx er ea ou) : sush σ (X + w) := by
  rcases hR.2.1 with rfl | rfl
  · exact hR.2.2.2.2.1.1
  · exact hR.2.2.2.2.1.2
theorem no_zi {c : Int} (k : Int) (h : zin c) (hk : zin k) (hne : c ≠ k) : ¬ zi c = zi k := by rw [zi_eq h.1 h.2 hk.1 hk.2]; exact hne
theorem cq_source {a c : Int} (hR : CR σ X w P nm sv sz q tx er ea ou) (h : CN σ X w V b P M) (ha : zin a) (hc : zin c) : ((aSource P M a c).1 = 0 → fX9_source σ X (zi a) (zi c) = some (σ, zi (aSource P M a c).2)) ∧ ((aSource P M a c).1 ≠ 0 → tX9_source σ X (zi a) (zi c) = some 1) := by
  obtain ⟨n1, n2⟩ := cq_needSource hR ha
  have hS := hR.2.2.2.1.1
  have hP4 := hR.2.2.2.1.2.2.2.1
  unfold aSource
  by_cases k : (0 ≤ a ∧ a < P.1) ∧ 0 ≤ c ∧ c ≤ 3
  · rw [if_pos k]
    obtain ⟨m1, m2⟩ := n1 k.1
    obtain ⟨s, rfl⟩ := nat_of k.1.1
    refine ⟨fun _ => ?_, fun q => absurd rfl q⟩
    unfold fX9_source
    rw [cx_c hR.1, m1, Option.bind_some]
    have hc4 : c = 0 ∨ c = 1 ∨ c = 2 ∨ c = 3 := by omega
    rcases hc4 with rfl | rfl | rfl | rfl
    · rw [if_pos rfl, cx_set hR, Option.bind_some, su_r hS (by omega) (by omega), Option.bind_some, su_rec hS (by omega), Option.bind_some]; rfl
    · rw [if_neg (by decide), if_pos rfl, cx_set hR, Option.bind_some, su_r hS (by omega) (by omega), Option.bind_some, zaI_of s (CR_sush hR).2.2.1.2.1 rfl (by omega) (by omega), Option.bind_some, (hR.2.2.2.1.2.1 s (by omega)).1]; rfl
    · rw [if_neg (by decide), if_neg (by decide), if_pos rfl, cx_now hR.1, Option.bind_some, fi_9 h.1, Option.bind_some, CN_a 1 s h (by omega) rfl (by show s < 4; omega), Option.bind_some, h.2.1.2.1.2.1 s (by omega)]; rfl
    · rw [if_neg (by decide), if_neg (by decide), if_neg (by decide), if_pos rfl, cx_now hR.1, Option.bind_some, fi_10 h.1, Option.bind_some, CN_a 2 s h (by omega) rfl (by show s < 4; omega), Option.bind_some, h.2.1.2.1.2.2.1 s (by omega)]; rfl
  · rw [if_neg k]
    refine ⟨fun q => absurd q (by decide), fun _ => ?_⟩
    unfold tX9_source
    by_cases k1 : 0 ≤ a ∧ a < P.1
    · rw [(n1 k1).2]
      dsimp only
      rw [cx_c hR.1, (n1 k1).1, Option.bind_some, if_neg (no_zi 0 hc (by decide) (by omega)), if_neg (no_zi 1 hc (by decide) (by omega)), if_neg (no_zi 2 hc (by decide) (by omega)), if_neg (no_zi 3 hc (by decide) (by omega))]
    · rw [n2 k1]
theorem cq_owner {k : Int} (hR : CR σ X w P nm sv sz q tx er ea ou) (h : CN σ X w V b P M) (hk : zin k) : ((aOwner M k).1 = 0 → fX9_owner σ X (zi k) = some (σ, zi (aOwner M k).2)) ∧ ((aOwner M k).1 ≠ 0 → tX9_owner σ X (zi k) = some 2) := by
  obtain ⟨n1, n2⟩ := cq_needKey (τ := σ) hk
  have h4 := qN_many h.2.2.1.1.2.1
  unfold aOwner
  by_cases k1 : 0 ≤ k ∧ k < 16
  · rw [if_pos k1]
    refine ⟨fun _ => ?_, fun q => absurd rfl q⟩
    obtain ⟨n, rfl⟩ := nat_of k1.1
    unfold fX9_owner
    rw [(n1 k1).1, Option.bind_some, cx_now hR.1, Option.bind_some, CN_many h, Option.bind_some, c_owner (by omega) (by omega), Option.bind_some]
    rfl
  · rw [if_neg k1]
    refine ⟨fun q => absurd q (by decide), fun _ => ?_⟩
    unfold tX9_owner
    rw [n2 k1]
theorem cq_sum {k : Int} (hR : CR σ X w P nm sv sz q tx er ea ou) (h : CN σ X w V b P M) (hk : zin k) : ((aSum M k).1 = 0 → fX9_sum σ X (zi k) = some (σ, zi (aSum M k).2)) ∧ ((aSum M k).1 ≠ 0 → tX9_sum σ X (zi k) = some 2) := by
  obtain ⟨n1, n2⟩ := cq_needKey (τ := σ) hk
  unfold aSum
  by_cases k1 : 0 ≤ k ∧ k < 16
  · rw [if_pos k1]
    refine ⟨fun _ => ?_, fun q => absurd rfl q⟩
    obtain ⟨n, rfl⟩ := nat_of k1.1
    unfold fX9_sum
    rw [(n1 k1).1, Option.bind_some, cx_now hR.1, Option.bind_some, fi_11 h.1, Option.bind_some, CN_a 3 n h (by omega) rfl (by show n < 16; omega), Option.bind_some, h.2.1.2.1.2.2.2.1 n (by omega)]
    rfl
  · rw [if_neg k1]
    refine ⟨fun q => absurd q (by decide), fun _ => ?_⟩
    unfold tX9_sum
    rw [n2 k1]
theorem cnt_s {p : Nat → Bool} {n : Nat} : (List.range (n + 1)).countP p = (List.range n).countP p + if p n = true then 1 else 0 := by
  rw [List.range_succ, List.countP_append, List.countP_singleton]
/-- a loop that counts -/
theorem zcnt {τ : zS} {step : zS × Int32 × Int32 → Option ((zS × Int32 × Int32) ⊕ (zS × Int32))} (n : Nat) (p : Nat → Bool) (hs : ∀ i y, i < n → step (τ, zi y, zi (i : Int)) = some (.inl (τ, zi (y + if p i = true then 1 else 0), zi (i : Int) + zi 1))) (he : ∀ y, step (τ, zi y, zi (n : Int)) = some (.inr (τ, zi y))) (hn : n < 1000000) : zloop step zfuel (τ, zi 0, zi 0) = some (τ, zi ((List.range n).countP p : Nat)) := by
  obtain ⟨y, hy, hq⟩ := zloop_run (step := step) (s := (τ, zi 0, zi 0)) (fuel := zfuel) n (fun i s => s = (τ, zi ((List.range i).countP p : Nat), zi (i : Int))) (fun y => y = (τ, zi ((List.range n).countP p : Nat)))
    (fun i s hi hs2 => by
      subst hs2
      refine Or.inl ⟨_, hs i _ hi, ?_⟩
      rw [zi_add, cnt_s]
      split <;> rfl)
    (fun s hs2 => by subst hs2; exact ⟨_, he _, rfl⟩)
    (zfuel_lt hn) rfl
  rw [hy, hq]
theorem cq_groups {m i : Nat} (hm : m < 10) (hi : i < 100) : fX9_groupsOf σ (zi i) (zi m) = some (σ, zi (qgroups m i)) := by
  unfold fX9_groupsOf
  rw [zcnt 8 (fun g => decide (qown g m = i)) (fun g y hg => by
    unfold sX9_groupsOf_4 sX9_groupsOf_4b
    dsimp only
    rw [if_neg (zi_nle (by omega) (by omega) (by omega)), c_owner (by omega) hm, Option.bind_some]
    dsimp only
    have ho : qown g m ≤ m := by
      by_cases e : m = 0
      · rw [e]; simp [qown]
      · exact Nat.le_of_lt (qown_lt (by omega))
    unfold jX9_groupsOf_22_L4
    by_cases e : qown g m = i
    · rw [if_pos (by rw [e]), if_pos (decide_eq_true e), zi_add]
    · rw [if_neg (by rw [zi_eq (by omega) (by omega) (by omega) (by omega)]; omega), if_neg (by rw [decide_eq_false e]; decide), Int.add_zero]) (fun y => by
    unfold sX9_groupsOf_4 sX9_groupsOf_4b
    dsimp only
    rw [if_pos (by decide)]) (by omega), Option.bind_some]
  rfl
theorem cq_lensA {i : Nat} (h : CN σ X w V b P M) (hi : i < 4) : fX1_recordsTo σ (fpl X 0) (zi i) = some (σ, zi (qlens M P.1 (fun s => 4 * i + s))) := by
  have hS : SU σ (X + w) P := h.2.2.2.2.2.1
  have hP4 := h.2.2.2.2.2.2.2.2.1
  unfold fX1_recordsTo
  rw [zsum P.1 (fun s => ((M.2.1 (4 * i + s)).length : Int)) 0 (fun s y hs => by
    unfold sX1_recordsTo_4 sX1_recordsTo_4b
    dsimp only
    rw [fi_17 h.1, Option.bind_some, cs_0 hS, Option.bind_some, if_neg (zi_nle (by omega) (by omega) (by omega)), fi_14 h.1, Option.bind_some, c_channel, Option.bind_some]
    dsimp only
    rw [CN_3 h, CN_size h (by omega), Option.bind_some, zi_add]) (fun y => by
    unfold sX1_recordsTo_4 sX1_recordsTo_4b
    dsimp only
    rw [fi_17 h.1, Option.bind_some, cs_0 hS, Option.bind_some, if_pos (zi_yle (by omega) (by omega) (Int.le_refl _))]) (by omega), Option.bind_some]
  dsimp only
  rw [Int.zero_add]
  rfl
theorem cq_lensB {i : Nat} (h : CN σ X w V b P M) (hi : i < 4) : fX1_resultsFrom σ (fpl X 0) (zi i) = some (σ, zi (qlens M P.2.1 (fun k => 4 * (4 + k) + i))) := by
  have hS : SU σ (X + w) P := h.2.2.2.2.2.1
  have hP2 := h.2.2.2.2.2.2.2.2.2.2.1
  unfold fX1_resultsFrom
  rw [zsum P.2.1 (fun k => ((M.2.1 (4 * (4 + k) + i)).length : Int)) 0 (fun s y hs => by
    unfold sX1_resultsFrom_4 sX1_resultsFrom_4b
    dsimp only
    rw [fi_17 h.1, Option.bind_some, cs_1 hS, Option.bind_some, if_neg (zi_nle (by omega) (by omega) (by omega)), fi_14 h.1, Option.bind_some, zi_add, show (4 : Int) + (s : Int) = ((4 + s : Nat) : Int) from by omega, c_channel, Option.bind_some]
    dsimp only
    rw [CN_3 h, CN_size h (by omega), Option.bind_some, zi_add]) (fun y => by
    unfold sX1_resultsFrom_4 sX1_resultsFrom_4b
    dsimp only
    rw [fi_17 h.1, Option.bind_some, cs_1 hS, Option.bind_some, if_pos (zi_yle (by omega) (by omega) (Int.le_refl _))]) (by omega), Option.bind_some]
  dsimp only
  rw [Int.zero_add]
  rfl
theorem cq_inst {a c : Int} (hR : CR σ X w P nm sv sz q tx er ea ou) (h : CN σ X w V b P M) (ha : zin a) (hc : zin c) : ((aInst P M a c).1 = 0 → fX9_instance σ X (zi a) (zi c) = some (σ, zi (aInst P M a c).2)) ∧ ((aInst P M a c).1 ≠ 0 → tX9_instance σ X (zi a) (zi c) = some 1) := by
  obtain ⟨n1, n2⟩ := cq_needInst hR.1 h ha
  have h4 := qN_many h.2.2.1.1.2.1
  unfold aInst
  by_cases k : (0 ≤ a ∧ a < qmany M) ∧ 0 ≤ c ∧ c ≤ 4
  · rw [if_pos k]
    obtain ⟨m1, m2⟩ := n1 k.1
    obtain ⟨s, rfl⟩ := nat_of k.1.1
    refine ⟨fun _ => ?_, fun q => absurd rfl q⟩
    unfold fX9_instance
    rw [cx_c hR.1, m1, Option.bind_some]
    have hc4 : c = 0 ∨ c = 1 ∨ c = 2 ∨ c = 3 ∨ c = 4 := by omega
    rcases hc4 with rfl | rfl | rfl | rfl | rfl
    · rw [if_pos rfl, cx_now hR.1, Option.bind_some, CN_many h, Option.bind_some, cq_groups (by omega) (by omega), Option.bind_some]; rfl
    · rw [if_neg (by decide), if_pos rfl, cx_now hR.1, Option.bind_some, fi_12 h.1, Option.bind_some, CN_a 4 s h (by omega) rfl (by show s < 4; omega), Option.bind_some, h.2.1.2.1.2.2.2.2.1 s (by omega)]; rfl
    · rw [if_neg (by decide), if_neg (by decide), if_pos rfl, cx_now hR.1, Option.bind_some, fi_13 h.1, Option.bind_some, CN_a 5 s h (by omega) rfl (by show s < 6; omega), Option.bind_some, h.2.1.2.1.2.2.2.2.2.1 s (by omega)]; rfl
    · rw [if_neg (by decide), if_neg (by decide), if_neg (by decide), if_pos rfl, cx_now hR.1, Option.bind_some, CN_c h, cq_lensA h (by omega), Option.bind_some]; rfl
    · rw [if_neg (by decide), if_neg (by decide), if_neg (by decide), if_neg (by decide), if_pos rfl, cx_now hR.1, Option.bind_some, CN_c h, cq_lensB h (by omega), Option.bind_some]; rfl
  · rw [if_neg k]
    refine ⟨fun q => absurd q (by decide), fun _ => ?_⟩
    unfold tX9_instance
    by_cases k1 : 0 ≤ a ∧ a < qmany M
    · rw [(n1 k1).2]
      dsimp only
      rw [cx_c hR.1, (n1 k1).1, Option.bind_some, if_neg (no_zi 0 hc (by decide) (by omega)), if_neg (no_zi 1 hc (by decide) (by omega)), if_neg (no_zi 2 hc (by decide) (by omega)), if_neg (no_zi 3 hc (by decide) (by omega)), if_neg (no_zi 4 hc (by decide) (by omega))]
    · rw [n2 k1]
theorem cq_sink {a c : Int} (hR : CR σ X w P nm sv sz q tx er ea ou) (h : CN σ X w V b P M) (ha : zin a) (hc : zin c) : ((aSink P M a c).1 = 0 → fX9_sink σ X (zi a) (zi c) = some (σ, zi (aSink P M a c).2)) ∧ ((aSink P M a c).1 ≠ 0 → tX9_sink σ X (zi a) (zi c) = some 1) := by
  obtain ⟨n1, n2⟩ := cq_needSink hR ha
  have hP2 := hR.2.2.2.1.2.2.2.2.2.1
  unfold aSink
  by_cases k : (0 ≤ a ∧ a < P.2.1) ∧ 0 ≤ c ∧ c ≤ 3
  · rw [if_pos k]
    obtain ⟨m1, m2⟩ := n1 k.1
    obtain ⟨s, rfl⟩ := nat_of k.1.1
    refine ⟨fun _ => ?_, fun q => absurd rfl q⟩
    unfold fX9_sink
    rw [cx_c hR.1, m1, Option.bind_some]
    have hc4 : c = 0 ∨ c = 1 ∨ c = 2 ∨ c = 3 := by omega
    rcases hc4 with rfl | rfl | rfl | rfl
    · rw [if_pos rfl, cx_now hR.1, Option.bind_some, fi_14 h.1, Option.bind_some, CN_3 h, zi_add, show (24 : Int) + (s : Int) = ((24 + s : Nat) : Int) from by omega, CN_size h (by omega), Option.bind_some]; rfl
    · rw [if_neg (by decide), if_pos rfl, cx_now hR.1, Option.bind_some, fi_14 h.1, Option.bind_some, CN_3 h, zi_add, show (26 : Int) + (s : Int) = ((26 + s : Nat) : Int) from by omega, CN_size h (by omega), Option.bind_some]; rfl
    · rw [if_neg (by decide), if_neg (by decide), if_pos rfl, cx_now hR.1, Option.bind_some, fi_14 h.1, Option.bind_some, CN_3 h, zi_add, show (28 : Int) + (s : Int) = ((28 + s : Nat) : Int) from by omega, CN_size h (by omega), Option.bind_some]; rfl
    · rw [if_neg (by decide), if_neg (by decide), if_neg (by decide), if_pos rfl, cx_now hR.1, Option.bind_some, fi_13 h.1, Option.bind_some, zi_add, CN_a 5 (4 + s) h (by omega) (by omega) (by show 4 + s < 6; omega), Option.bind_some, h.2.1.2.1.2.2.2.2.2.1 (4 + s) (by omega)]; rfl
  · rw [if_neg k]
    refine ⟨fun q => absurd q (by decide), fun _ => ?_⟩
    unfold tX9_sink
    by_cases k1 : 0 ≤ a ∧ a < P.2.1
    · rw [(n1 k1).2]
      dsimp only
      rw [cx_c hR.1, (n1 k1).1, Option.bind_some, if_neg (no_zi 0 hc (by decide) (by omega)), if_neg (no_zi 1 hc (by decide) (by omega)), if_neg (no_zi 2 hc (by decide) (by omega)), if_neg (no_zi 3 hc (by decide) (by omega))]
    · rw [n2 k1]
theorem CN_at {l i : Nat} (h : CN σ X w V b P M) (hl : l < 30) (hi : i < (M.2.1 l).length) : fX3_at σ (fpl X 0 + 6) (zi l) (zi i) = some (σ, zi ((M.2.1 l).getD i 0 : Nat)) := by
  have hlen := (qI_len h.2.2.1 hl).1
  have hLL := h.2.1.2.1.2.2.2.2.2.2.2.2 l hl
  obtain ⟨y, hy, hq⟩ := zloop_run (step := sX3_at_24 (fpl X 0 + 6) (zi i)) (s := (σ, zi (lhd (M.2.1 l)), zi 0)) (fuel := zfuel) i (fun t s => s = (σ, zi ((M.2.1 l).getD t 0 : Nat), zi (t : Int))) (fun y => y = (σ, zi ((M.2.1 l).getD i 0 : Nat)))
    (fun t s ht hs => by
      subst hs
      refine Or.inl ⟨_, ?_, rfl⟩
      unfold sX3_at_24 sX3_at_24b
      dsimp only
      rw [if_neg (zi_nle (by omega) (by omega) (by omega)), CN_3 h, CN_behind h (hLL.2.2.2.2.1 _ (getD_mem (by omega))), Option.bind_some, zi_add]
      dsimp only
      rw [show V 7 ((M.2.1 l).getD t 0) = zi ((M.2.1 l).getD (t + 1) 0 : Nat) from hLL.2.2.2.1 t (by omega)]
      rfl)
    (fun s hs => by
      subst hs
      refine ⟨_, ?_, rfl⟩
      unfold sX3_at_24 sX3_at_24b
      dsimp only
      rw [if_pos (zi_yle (by omega) (by omega) (Int.le_refl _))])
    (zfuel_lt (by omega)) (by rw [lhd_getD (fun q => by rw [q] at hi; exact absurd hi (Nat.not_lt_zero _))]; rfl)
  unfold fX3_at
  rw [if_neg (by rw [zi_lt (by omega) (by omega) (by omega) (by omega)]; omega), CN_3 h, CN_size h hl, Option.bind_some]
  dsimp only
  rw [if_pos (by rw [zi_lt (by omega) (by omega) (by omega) (by omega)]; omega), CN_3 h, CN_first h hl, Option.bind_some]
  dsimp only
  rw [hy, Option.bind_some, hq]
theorem CN_at0 {l : Nat} {i : Int} (h : CN σ X w V b P M) (hl : l < 30) (hz : zin i) (hi : ¬ (0 ≤ i ∧ i < (M.2.1 l).length)) : fX3_at σ (fpl X 0 + 6) (zi l) (zi i) = some (σ, zi (-1)) := by
  have hlen := (qI_len h.2.2.1 hl).1
  unfold fX3_at
  by_cases k : i < 0
  · rw [if_pos (by rw [zi_lt hz.1 hz.2 (by omega) (by omega)]; exact k)]
  · rw [if_neg (by rw [zi_lt hz.1 hz.2 (by omega) (by omega)]; exact k), CN_3 h, CN_size h hl, Option.bind_some]
    dsimp only
    rw [if_neg (by rw [zi_lt hz.1 hz.2 (by omega) (by omega)]; omega)]
theorem su_res {τ : zS} {u n : Nat} (h : SU τ u P) (hn : n < 800) (hr : n % 200 < P.2.2.1 (n / 200)) : fX7_resultOf τ u (zi n) = some (τ, zi (qres P n)) := by
  unfold fX7_resultOf
  rw [if_neg (by rw [zi_lt (by omega) (by omega) (by omega) (by omega)]; omega), if_neg (zi_nle (by omega) (by omega) (by omega)), su_r h (by omega) (by omega), Option.bind_some, zaI_of n h.2.2.2.2.2.2.2.1 rfl hn (by omega), Option.bind_some, h.2.2.2.2.2.2.2.2 n hn hr]
theorem cq_shown {a i c : Int} (hR : CR σ X w P nm sv sz q tx er ea ou) (h : CN σ X w V b P M) (ha : zin a) (hi : zin i) (hc : zin c) : ((aShown P M a i c).1 = 0 → fX9_shown σ X (zi a) (zi i) (zi c) = some (σ, zi (aShown P M a i c).2)) ∧ ((aShown P M a i c).1 = 1 → tX9_shown σ X (zi a) (zi i) (zi c) = some 1) ∧ ((aShown P M a i c).1 = 2 → tX9_shown σ X (zi a) (zi i) (zi c) = some 4) ∧ ((aShown P M a i c).1 = 0 ∨ (aShown P M a i c).1 = 1 ∨ (aShown P M a i c).1 = 2) := by
  obtain ⟨n1, n2⟩ := cq_needSink hR ha
  have hP2 := hR.2.2.2.1.2.2.2.2.2.1
  have hS := hR.2.2.2.1.1
  unfold aShown
  by_cases k1 : 0 ≤ a ∧ a < P.2.1
  · obtain ⟨m1, m2⟩ := n1 k1
    obtain ⟨s, rfl⟩ := nat_of k1.1
    rw [Int.toNat_natCast]
    have e28 : (28 : Int) + (s : Int) = ((28 + s : Nat) : Int) := by omega
    by_cases k : 0 ≤ c ∧ c ≤ 1
    · rw [if_pos ⟨k1, k⟩]
      by_cases k3 : 0 ≤ i ∧ i < (M.2.1 (28 + s)).length
      · rw [if_pos k3]
        refine ⟨fun _ => ?_, fun q => absurd q (show ¬ (0 : Int) = 1 from by decide), fun q => absurd q (show ¬ (0 : Int) = 2 from by decide), Or.inl rfl⟩
        obtain ⟨j, rfl⟩ := nat_of k3.1
        rw [Int.toNat_natCast]
        have hrec := qI_rec h.2.2.1 (c := 28 + s) (by omega) (getD_mem (L := M.2.1 (28 + s)) (i := j) (by omega))
        unfold fX9_shown
        rw [cx_c hR.1, m1, Option.bind_some, if_neg (by rw [zi_lt hc.1 hc.2 (by omega) (by omega)]; omega), if_pos (zi_yle (by omega) (by omega) (by omega)), cx_now hR.1, Option.bind_some, fi_14 h.1, Option.bind_some, CN_3 h, zi_add, e28, CN_at h (by omega) (by omega), Option.bind_some]
        dsimp only
        rw [if_neg (by rw [zi_eq (by omega) (by omega) (by omega) (by omega)]; omega)]
        have hc2 : c = 0 ∨ c = 1 := by omega
        rcases hc2 with rfl | rfl
        · rw [if_pos rfl, cx_set hR, Option.bind_some, su_c hS, su_key hS hrec.1 hrec.2.1, Option.bind_some]; rfl
        · rw [if_neg (by decide), cx_set hR, Option.bind_some, su_c hS, su_res hS hrec.1 hrec.2.1, Option.bind_some]; rfl
      · rw [if_neg k3]
        refine ⟨fun q => absurd q (by decide), fun q => absurd q (by decide), fun _ => ?_, Or.inr (Or.inr rfl)⟩
        unfold tX9_shown
        rw [m2]
        dsimp only
        rw [cx_c hR.1, m1, Option.bind_some, if_neg (by rw [zi_lt hc.1 hc.2 (by omega) (by omega)]; omega), if_pos (zi_yle (by omega) (by omega) (by omega)), cx_now hR.1, Option.bind_some, fi_14 h.1, Option.bind_some, CN_3 h, zi_add, e28, CN_at0 h (by omega) hi k3, Option.bind_some]
        rfl
    · rw [if_neg (fun q => k q.2)]
      refine ⟨fun q => absurd q (by decide), fun _ => ?_, fun q => absurd q (by decide), Or.inr (Or.inl rfl)⟩
      unfold tX9_shown
      rw [m2]
      dsimp only
      rw [cx_c hR.1, m1, Option.bind_some]
      by_cases k4 : c < 0
      · rw [if_pos (by rw [zi_lt hc.1 hc.2 (by omega) (by omega)]; exact k4)]
      · rw [if_neg (by rw [zi_lt hc.1 hc.2 (by omega) (by omega)]; exact k4), if_neg (zi_nle (by omega) (by have := hc.2; omega) (by omega))]
  · rw [if_neg (fun q => k1 q.1)]
    refine ⟨fun q => absurd q (by decide), fun _ => ?_, fun q => absurd q (by decide), Or.inr (Or.inl rfl)⟩
    unfold tX9_shown
    rw [n2 k1]
end CQ2
