/-! A checkpoint that is completed in some ticks is there behind them. -/
def KM (M N : qM) : Prop := N.1 6 = M.1 6 ∧ N.1 118 = M.1 118
theorem KM_refl (M : qM) : KM M M := ⟨rfl, rfl⟩
theorem KM_trans {A B C : qM} (h : KM A B) (g : KM B C) : KM A C := ⟨g.1.trans h.1, g.2.trans h.2⟩
section QD
variable {P : qP} {M : qM} {z : Int}
theorem KM_overs {a n : Nat} (hI : qI P M) (e67 : M.1 67 = 1) (e69 : M.1 69 = 1) (ha : a + n ≤ 6) (hl : ∀ k, k < n → qlr P M (a + k)) : KM M ((List.range n).foldl (fun M k => qovers P (a + k) M) M) := by
  have key := q_fold (fun M k => qovers P (a + k) M) (fun i N => i ≤ n → qI P N ∧ N.1 67 = 1 ∧ N.1 69 = 1 ∧ N.1 1 = M.1 1 ∧ KM M N) n M (fun _ => ⟨hI, e67, e69, rfl, KM_refl M⟩) (fun i N hi ih _ => by
    obtain ⟨n1, n2, n3, n5, n4⟩ := ih (by omega)
    have hlr : qlr P N (a + i) := by
      have := hl i hi
      unfold qlr at this ⊢
      rw [qmany_eq n5]
      exact this
    obtain ⟨o1, o2, -⟩ := qI_overs n1 n2 n3 (r := a + i) (by omega) hlr
    exact ⟨o1, by rw [o2 _ (by omega)]; exact n2, by rw [o2 _ (by omega)]; exact n3, (o2 1 (by omega)).trans n5, ⟨(o2 6 (by omega)).trans n4.1, (o2 118 (by omega)).trans n4.2⟩⟩)
  exact (key (Nat.le_refl _)).2.2.2.2
theorem KM_C (hP : qPok P) : KM M (qtickC P M) := by
  have h4 := hP.2.1
  unfold qtickC
  have key := q_fold (fun M s => qsend P s (qput s M)) (fun _ N => KM M N) P.1 M (KM_refl M) (fun i N hi hN => by
    refine KM_trans hN ⟨?_, ?_⟩
    · rw [qsend_same 6 (by omega) (by omega), qput_same 6 (by omega) (by omega)]
    · rw [qsend_same 118 (by omega) (by omega), qput_same 118 (by omega) (by omega)])
  exact key
theorem KM_D (hI : qI P M) : KM M (qtickD P M) := by
  have h4 := qN_many hI.1.2.1
  have ed : qtickD P M = (if qovert M then (List.range (qmany M)).foldl (fun M k => qovers P (0 + k) M) M else M) := by
    unfold qtickD
    simp only [Nat.zero_add]
  rw [ed]
  by_cases eo : qovert M = true
  · rw [if_pos eo]
    obtain ⟨e67, e69⟩ := qovert_iff.mp eo
    exact KM_overs hI e67 e69 (by omega) (fun k hk => by unfold qlr; rw [if_pos (by omega)]; omega)
  · rw [if_neg eo]
    exact KM_refl M
theorem KM_F (hI : qI P M) : KM M (qtickF P M) := by
  have h2 := hI.1.1.2.2.2.1
  unfold qtickF
  by_cases eo : qovert M = true
  · rw [if_pos eo]
    obtain ⟨e67, e69⟩ := qovert_iff.mp eo
    exact KM_overs hI e67 e69 (by omega) (fun k hk => by unfold qlr; rw [if_neg (by omega)]; omega)
  · rw [if_neg eo]
    exact KM_refl M
theorem KM_E (hI : qI P M) (hno : ¬ qhid M) (hnb : ∀ r, r < 4 → qNB M r) : KM M (qtickE P M) := by
  have h4 := qN_many hI.1.2.1
  unfold qtickE
  have key := q_fold (fun M i => qhandle P i M) (fun i N => qI P N ∧ ¬ qhid N ∧ (N.1 1 = M.1 1 ∧ KM M N) ∧ ∀ r, r < 4 → qNB N r) (qmany M) M ⟨hI, hno, ⟨rfl, KM_refl M⟩, hnb⟩ (fun t N ht hN => by
    obtain ⟨n1, n2, n4, n5⟩ := hN
    have hmN : t < qmany N := by rw [qmany_eq n4.1]; exact ht
    have hlr : qlr P N t := by unfold qlr; rw [if_pos (by omega)]; exact hmN
    obtain ⟨o1, o2, o3⟩ := qI_handle n1 n2 (r := t) (by omega) hlr (n5 t (by omega))
    have key : ∀ k, k < 9 → (qhandle P t N).1 k = N.1 k := fun k hk => qhandle_lo n1 (by omega) hlr hk
    refine ⟨o1, ?_, ⟨(key 1 (by omega)).trans n4.1, (key 6 (by omega)).trans n4.2.1, (o2 118 (by omega)).trans n4.2.2⟩, fun r hr a b x hx => ?_⟩
    · unfold qhid; rw [o2 118 (by omega), o2 123 (by omega)]; exact n2
    · rw [o2 67 (by omega)] at a
      rw [o2 69 (by omega)] at b
      exact o3 a b _ (n5 r hr a b x hx))
  exact key.2.2.1.2
theorem KM_G (hI : qI P M) (hno : ¬ qhid M) (hnb : ∀ r, 4 ≤ r → r < 6 → qNB M r) : KM M (qtickG P M) := by
  have h2 := hI.1.1.2.2.2.1
  unfold qtickG
  have key := q_fold (fun M k => qhandle P (4 + k) M) (fun i N => qI P N ∧ ¬ qhid N ∧ KM M N ∧ ∀ r, 4 ≤ r → r < 6 → qNB N r) P.2.1 M ⟨hI, hno, KM_refl M, hnb⟩ (fun t N ht hN => by
    obtain ⟨n1, n2, n4, n5⟩ := hN
    have hlr : qlr P N (4 + t) := by unfold qlr; rw [if_neg (by omega)]; omega
    obtain ⟨o1, o2, o3⟩ := qI_handle n1 n2 (r := 4 + t) (by omega) hlr (n5 (4 + t) (by omega) (by omega))
    have key : ∀ k, k < 9 → (qhandle P (4 + t) N).1 k = N.1 k := fun k hk => qhandle_lo n1 (by omega) hlr hk
    refine ⟨o1, ?_, ⟨(key 6 (by omega)).trans n4.1, (o2 118 (by omega)).trans n4.2⟩, fun r hr1 hr a b x hx => ?_⟩
    · unfold qhid; rw [o2 118 (by omega), o2 123 (by omega)]; exact n2
    · rw [o2 67 (by omega)] at a
      rw [o2 69 (by omega)] at b
      exact o3 a b _ (n5 r hr1 hr a b x hx))
  exact key.2.2.1
/-- a tick completes a checkpoint, or leaves these numbers as they are -/
theorem KM_tick (hI : qI P M) (h : KB z M) : (qtick P M).1 118 = 1 ∨ KM M (qtick P M) := by
  have hA := qI_A hI ⟨h.1.1, h.2.1.1⟩
  have kA : KM M (qtickA M) := by
    unfold qtickA
    split
    · exact ⟨rfl, rfl⟩
    · exact KM_refl M
  have kS : KM (qtickA M) (qshow P (qtickA M)) := ⟨qshow_S (by omega), qshow_S (by omega)⟩
  obtain ⟨b1, b2⟩ := qI_show0 hA
  obtain ⟨c1, c2⟩ := qI_C b1 b2
  have n2 := KM_C (P := P) (M := qshow P (qtickA M)) hI.1.1
  obtain ⟨d1, d2, d3⟩ := qI_D c1 c2
  have n3 := KM_D c1
  obtain ⟨g1, g2⟩ := qI_E d1 d2 d3
  have n4 := KM_E d1 d2 d3
  obtain ⟨f1, f2, f3⟩ := qI_F g1 g2
  have n5 := KM_F g1
  have n6 := KM_G f1 f2 f3
  have n := KM_trans kA (KM_trans kS (KM_trans n2 (KM_trans n3 (KM_trans n4 (KM_trans n5 n6)))))
  unfold qtick
  generalize qtickG P (qtickF P (qtickE P (qtickD P (qtickC P (qshow P (qtickA M)))))) = N at n
  dsimp only
  have e6 : ∀ K : qM, (qS K 0 (K.1 0 + 1)).1 6 = K.1 6 := fun K => (show qu K.1 0 (K.1 0 + 1) 6 = K.1 6 from qu_ne (by decide))
  have e8 : ∀ K : qM, (qS K 0 (K.1 0 + 1)).1 118 = K.1 118 := fun K => (show qu K.1 0 (K.1 0 + 1) 118 = K.1 118 from qu_ne (by decide))
  unfold KM
  rw [e6, e8]
  unfold qtickH
  split
  · exact Or.inl rfl
  · exact Or.inr n
theorem KM_it (hI : qI P M) (h : KB z M) : ∀ n : Nat, (qit P n M).1 118 = 1 ∨ KM M (qit P n M)
  | 0 => Or.inr (KM_refl M)
  | n + 1 => by
    obtain ⟨a, b⟩ := qI_it hI h n
    rcases KM_tick a b with k | k
    · exact Or.inl k
    · rcases KM_it hI h n with k2 | k2
      · exact Or.inl (k.2.trans k2)
      · exact Or.inr (KM_trans k2 k)
theorem qfind_p {p : Nat → Bool} {n : Nat} (h : qfind p n ≠ -1) : p (qfind p n).toNat = true := by
  unfold qfind at h ⊢
  cases e : (List.range n).find? p with
  | none => rw [e] at h; exact absurd rfl h
  | some k => exact List.find?_some e
theorem qcw_done {t : Nat} (hI : qI P M) (h : KB z M) (hc : qcw P M t ≠ -1) : (qcwM P M t).1 118 = 1 := by
  have hp := qfind_p hc
  unfold qcwM
  rw [if_neg hc]
  have hp2 : qcomp P M (qcw P M t).toNat = true := hp
  unfold qcomp at hp2
  rw [Bool.and_eq_true, decide_eq_true_iff, decide_eq_true_iff] at hp2
  rcases KM_it hI h (qcw P M t).toNat with k | k
  · exact k
  · rw [k.1] at hp2
    exact absurd hp2.2 (fun q => Int32.lt_irrefl q)
end QD
