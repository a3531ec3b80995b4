/-! A tick keeps the flow. -/
theorem q_fold {α : Type} (f : α → Nat → α) (I : Nat → α → Prop) : ∀ (n : Nat) (a : α), I 0 a → (∀ i a, i < n → I i a → I (i + 1) (f a i)) → I n ((List.range n).foldl f a)
  | 0, a, h, _ => h
  | n + 1, a, h, hs => by
    rw [List.range_succ, List.foldl_append]
    exact hs n _ (Nat.lt_succ_self n) (q_fold f I n a h (fun i a hi => hs i a (Nat.lt_succ_of_lt hi)))
theorem q_fold_succ {α : Type} (f : α → Nat → α) (n : Nat) (a : α) : (List.range (n + 1)).foldl f a = f ((List.range n).foldl f a) n := by
  rw [List.range_succ, List.foldl_append]
  rfl
/-- no barrier stands in a receiver's channels when barriers overtake -/
def qNB (M : qM) (r : Nat) : Prop := M.1 67 = 1 → M.1 69 = 1 → ∀ x, x < 4 → M.2.2 (4 * r + x) = -1
theorem qput_same {s : Nat} {M : qM} : (∀ k, (k < 70 ∨ 74 ≤ k ∧ k < 98 ∨ 102 ≤ k) → s < 4 → (qput s M).1 k = M.1 k) := by
  intro k hk hs
  unfold qput
  split
  · exact (qu_ne (by omega)).trans (qu_ne (by omega))
  · rfl
theorem qsend_same {P : qP} {s : Nat} {M : qM} : (∀ k, k ≠ 13 + s → k ≠ 8 → (qsend P s M).1 k = M.1 k) := by
  intro k h1 h2
  unfold qsend
  split
  · rfl
  · dsimp only
    split
    · rfl
    · exact (qu_ne h2).trans (qu_ne h1)
theorem qI_C {P : qP} {M : qM} (hI : qI P M) (hno : ¬ qhid M) : qI P (qtickC P M) ∧ ¬ qhid (qtickC P M) := by
  unfold qtickC
  have hs4 := hI.1.1.2.1
  refine q_fold _ (fun _ N => qI P N ∧ ¬ qhid N) P.1 M ⟨hI, hno⟩ (fun s N hs h => ?_)
  have h1 := qI_put h.1 hs h.2
  have h2 : ¬ qhid (qput s N) := by
    unfold qhid
    rw [qput_same _ (by omega) (by omega), qput_same _ (by omega) (by omega)]
    exact h.2
  refine ⟨qI_send h1 hs, ?_⟩
  unfold qhid
  rw [qsend_same _ (by omega) (by omega), qsend_same _ (by omega) (by omega)]
  exact h2
/-- what an overtaking barrier's arrival leaves as it is -/
theorem qover_same {P : qP} {M : qM} {r x : Nat} (hr : r < 6) (hx : x < 4) : (∀ k, (k < 70 ∨ 118 ≤ k ∧ k < 144) → (qover P r x M).1 k = M.1 k) ∧ ∀ c, (c < 16 ∨ 4 ≤ r) → M.2.2 c = -1 → (qover P r x M).2.2 c = -1 := by
  have h1 : ∀ k, (k < 70 ∨ 118 ≤ k ∧ k < 144) → (if qcnt P M r = 0 then qcut P r M else M).1 k = M.1 k := by
    intro k hk
    split
    · unfold qcut
      split
      · dsimp only; rw [if_neg (by omega), if_neg (by omega)]
      · dsimp only; rw [qu_ne (by omega)]
    · rfl
  have h2 : ∀ c, (c < 16 ∨ 4 ≤ r) → (if qcnt P M r = 0 then qcut P r M else M).2.2 c = M.2.2 c := by
    intro c hc
    split
    · unfold qcut
      split
      · dsimp only; rw [if_neg (by omega)]
      · rfl
    · rfl
  refine ⟨fun k hk => ?_, fun c hc hb => ?_⟩
  · unfold qover
    dsimp only
    rw [qu_ne (by omega)]; exact h1 k hk
  · unfold qover
    dsimp only
    by_cases e : c = 4 * r + x
    · subst e; exact qu_at _ _ _
    · rw [qu_ne e, h2 c hc]; exact hb
theorem qI_overs {P : qP} {M : qM} {r : Nat} (hI : qI P M) (h67 : M.1 67 = 1) (h69 : M.1 69 = 1) (hr : r < 6) (hl : qlr P M r) : qI P (qovers P r M) ∧ (∀ k, (k < 70 ∨ 118 ≤ k ∧ k < 144) → (qovers P r M).1 k = M.1 k) ∧ (∀ x, x < 4 → (qovers P r M).2.2 (4 * r + x) = -1) ∧ ∀ c, (c < 16 ∨ 4 ≤ r) → M.2.2 c = -1 → (qovers P r M).2.2 c = -1 := by
  have hns := qns_le hI.1.1 hI.1.2.1 r
  have key := q_fold (fun M x => if M.2.2 (4 * r + x) = -1 then M else qover P r x M) (fun i N => qI P N ∧ (∀ k, (k < 70 ∨ 118 ≤ k ∧ k < 144) → N.1 k = M.1 k) ∧ (∀ x, x < i → N.2.2 (4 * r + x) = -1) ∧ ∀ c, (c < 16 ∨ 4 ≤ r) → M.2.2 c = -1 → N.2.2 c = -1) (qns P M r) M ⟨hI, fun _ _ => rfl, fun x hx => by omega, fun _ _ h => h⟩ (fun i N hi h => by
    obtain ⟨n1, n2, n3, n4⟩ := h
    have m1 : N.1 1 = M.1 1 := n2 1 (by omega)
    by_cases hb : N.2.2 (4 * r + i) = -1
    · rw [if_pos hb]
      refine ⟨n1, n2, fun x hx => ?_, n4⟩
      by_cases e : x = i
      · subst e; exact hb
      · exact n3 x (by omega)
    · rw [if_neg hb]
      obtain ⟨s1, s2⟩ := qover_same (P := P) (M := N) (r := r) (x := i) hr (by omega)
      have hlc : qlc P N r i := ⟨by rw [qlr_eq m1]; exact hl, by rw [qns_eq m1]; exact hi⟩
      refine ⟨qI_over n1 (by rw [n2 67 (by omega)]; exact h67) (by rw [n2 69 (by omega)]; exact h69) hr hlc hb, fun k hk => by rw [s1 k hk]; exact n2 k hk, fun x hx => ?_, fun c hc h => s2 c hc (n4 c hc h)⟩
      by_cases e : x = i
      · subst e
        unfold qover
        exact qu_at _ _ _
      · exact s2 _ (by omega) (n3 x (by omega)))
  obtain ⟨k1, k2, k3, k4⟩ := key
  refine ⟨k1, k2, fun x hx => ?_, k4⟩
  by_cases h : x < qns P M r
  · exact k3 x h
  · exact (k1.1.2.2.2.2.2.2.1 r x hr hx (fun h2 => h (by have := h2.2; rw [qns_eq (k2 1 (by omega))] at this; exact this))).1
theorem qovert_iff {M : qM} : qovert M = true ↔ M.1 67 = 1 ∧ M.1 69 = 1 := by unfold qovert; simp
theorem qI_D {P : qP} {M : qM} (hI : qI P M) (hno : ¬ qhid M) : qI P (qtickD P M) ∧ ¬ qhid (qtickD P M) ∧ ∀ r, r < 4 → qNB (qtickD P M) r := by
  unfold qtickD
  split
  · rename_i ho
    obtain ⟨h67, h69⟩ := qovert_iff.mp ho
    have hm4 := qN_many hI.1.2.1
    have key := q_fold (fun M i => qovers P i M) (fun i N => qI P N ∧ (∀ k, (k < 70 ∨ 118 ≤ k ∧ k < 144) → N.1 k = M.1 k) ∧ (∀ r x, r < i → x < 4 → N.2.2 (4 * r + x) = -1)) (qmany M) M ⟨hI, fun _ _ => rfl, fun r x hr => by omega⟩ (fun i N hi h => by
      obtain ⟨n1, n2, n3⟩ := h
      have hl : qlr P N i := by unfold qlr; rw [if_pos (by omega), qmany_eq (n2 1 (by omega))]; exact hi
      obtain ⟨o1, o2, o3, o4⟩ := qI_overs n1 (by rw [n2 67 (by omega)]; exact h67) (by rw [n2 69 (by omega)]; exact h69) (by omega) hl
      refine ⟨o1, fun k hk => by rw [o2 k hk]; exact n2 k hk, fun r x hr hx => ?_⟩
      by_cases e : r = i
      · subst e; exact o3 x hx
      · exact o4 _ (by omega) (n3 r x (by omega) hx))
    obtain ⟨k1, k2, k3⟩ := key
    refine ⟨k1, by unfold qhid; rw [k2 118 (by omega), k2 123 (by omega)]; exact hno, fun r hr _ _ x hx => ?_⟩
    by_cases h : r < qmany M
    · exact k3 r x h hx
    · exact (k1.1.2.2.2.2.2.2.1 r x (by omega) hx (fun h2 => h (by
        have := h2.1
        unfold qlr at this
        rw [if_pos hr, qmany_eq (k2 1 (by omega))] at this
        exact this))).1
  · rename_i ho
    exact ⟨hI, hno, fun r hr a b => absurd (qovert_iff.mpr ⟨a, b⟩) ho⟩
theorem qI_F {P : qP} {M : qM} (hI : qI P M) (hno : ¬ qhid M) : qI P (qtickF P M) ∧ ¬ qhid (qtickF P M) ∧ ∀ r, 4 ≤ r → r < 6 → qNB (qtickF P M) r := by
  unfold qtickF
  split
  · rename_i ho
    obtain ⟨h67, h69⟩ := qovert_iff.mp ho
    have hk2 := hI.1.1.2.2.2.1
    have key := q_fold (fun M k => qovers P (4 + k) M) (fun i N => qI P N ∧ (∀ k, (k < 70 ∨ 118 ≤ k ∧ k < 144) → N.1 k = M.1 k) ∧ (∀ j x, j < i → x < 4 → N.2.2 (4 * (4 + j) + x) = -1)) P.2.1 M ⟨hI, fun _ _ => rfl, fun r x hr => by omega⟩ (fun i N hi h => by
      obtain ⟨n1, n2, n3⟩ := h
      have hl : qlr P N (4 + i) := by unfold qlr; rw [if_neg (by omega)]; omega
      obtain ⟨o1, o2, o3, o4⟩ := qI_overs n1 (by rw [n2 67 (by omega)]; exact h67) (by rw [n2 69 (by omega)]; exact h69) (by omega) hl
      refine ⟨o1, fun k hk => by rw [o2 k hk]; exact n2 k hk, fun r x hr hx => ?_⟩
      by_cases e : r = i
      · subst e; exact o3 x hx
      · exact o4 _ (by omega) (n3 r x (by omega) hx))
    obtain ⟨k1, k2, k3⟩ := key
    refine ⟨k1, by unfold qhid; rw [k2 118 (by omega), k2 123 (by omega)]; exact hno, fun r h4 hr _ _ x hx => ?_⟩
    by_cases h : r - 4 < P.2.1
    · have := k3 (r - 4) x h hx
      rw [show 4 * (4 + (r - 4)) + x = 4 * r + x from by omega] at this
      exact this
    · exact (k1.1.2.2.2.2.2.2.1 r x (by omega) hx (fun h2 => h (by
        have := h2.1
        unfold qlr at this
        rw [if_neg (by omega)] at this
        exact this))).1
  · rename_i ho
    exact ⟨hI, hno, fun r _ hr a b => absurd (qovert_iff.mpr ⟨a, b⟩) ho⟩
theorem qturn_mem {P : qP} {M : qM} {r x : Nat} (h : qturn P r M = some x) : x < qns P M r ∧ qcan P r x M = true := by
  unfold qturn at h
  have h1 := List.find?_some h
  have h2 := List.mem_of_find?_eq_some h
  rw [List.mem_map] at h2
  obtain ⟨k, hk, rfl⟩ := h2
  rw [List.mem_range] at hk
  exact ⟨Nat.mod_lt _ (by omega), h1⟩
/-- what handling leaves as it is -/
theorem qcut_same {P : qP} {M : qM} {r : Nat} (hr : r < 6) : (∀ k, (k < 43 ∨ 67 ≤ k ∧ k < 102 ∨ 118 ≤ k ∧ k < 144) → (qcutb P r M).1 k = M.1 k) := (qcutb_facts hr).1
theorem qalign_same {P : qP} {M : qM} {r x : Nat} (hr : r < 6) (hx : x < 4) : (∀ k, (k < 43 ∨ 67 ≤ k ∧ k < 70 ∨ 118 ≤ k ∧ k < 144) → (qalign P r x M).1 k = M.1 k) := by
  intro k hk
  rw [qalign_eq]
  split
  · rw [qcut_same hr k (by omega), qkeep_S (by omega) (by omega)]
  · rw [qkeep_S (by omega) (by omega)]
theorem qI_take {P : qP} {M : qM} {r x : Nat} (hI : qI P M) (hno : ¬ qhid M) (hr : r < 6) (hlc : qlc P M r x) (hc : qcan P r x M = true) (hnb : qNB M r) :
    qI P (qtake P r x M) ∧ (∀ k, (k = 1 ∨ 67 ≤ k ∧ k < 70 ∨ 118 ≤ k ∧ k < 144) → (qtake P r x M).1 k = M.1 k) ∧ (M.1 67 = 1 → M.1 69 = 1 → ∀ c, M.2.2 c = -1 → (qtake P r x M).2.2 c = -1) := by
  have hns := qns_le hI.1.1 hI.1.2.1 r
  have hx : x < 4 := by have := hlc.2; omega
  have hN := hI.1.2.1
  unfold qtake
  split
  · rename_i hb
    -- a barrier
    have h67 : M.1 67 = 1 := by
      rcases hN.2.2.2.2.2.2.2.1 with q | q
      · have := ((hI.1.2.2.2.2.1 q).1 (4 * r + x) (by omega)).1; omega
      · exact q
    have h69 : M.1 69 = 0 := by
      rcases (hI.1.2.2.2.2.2.1 h67).1.1 with q | q
      · exact q
      · have := hnb h67 q x hx; omega
    have hI2 := qI_num (k := 37 + r) (v := (x : Int) + 1) hI (by
      have := hlc.2
      rw [show 37 + r - 37 = r from by omega]
      omega)
    have e : ∀ k, k ≠ 37 + r → (qS M (37 + r) ((x : Int) + 1)).1 k = M.1 k := fun k hk => qu_ne hk
    have hlc2 : qlc P (qS M (37 + r) ((x : Int) + 1)) r x := by rw [qlc_eq (e 1 (by omega))]; exact hlc
    refine ⟨qI_align hI2 (by rw [e 67 (by omega)]; exact h67) (by rw [e 69 (by omega)]; exact h69) hr hlc2 hb, fun k hk => ?_, fun _ q => by omega⟩
    rw [qalign_same hr hx k (by omega), e k (by omega)]
  · rename_i hb
    cases hL : M.2.1 (4 * r + x) with
    | nil => exact ⟨hI, fun _ _ => rfl, fun _ _ _ h => h⟩
    | cons n rest =>
      dsimp only
      have hbl : M.1 (43 + (4 * r + x)) ≠ 1 := by
        intro q
        unfold qcan at hc
        dsimp only at hc
        rw [if_pos q] at hc
        cases hc
      have hat := hI.1.2.2.1 (4 * r + x) n (by omega) (by rw [hL]; exact List.mem_cons_self)
      have hk16 := qkey_lt (P := P) hat.1
      rw [qmove_eq hI hr hlc]
      generalize hg : decide (M.1 67 = 1 ∧ M.1 69 = 1 ∧ M.1 (144 + r) = 1 ∧ M.1 (74 + (4 * r + x)) = 0) = g
      have hg2 : g = true ↔ M.1 67 = 1 ∧ M.1 69 = 1 ∧ M.1 (144 + r) = 1 ∧ M.1 (74 + (4 * r + x)) = 0 := by rw [← hg]; exact decide_eq_true_iff
      have h0 := qI_mv hI.1 hr hx hlc hL hb hbl hg2 hno
      have hS : ∀ k, (k = 1 ∨ 67 ≤ k) → (qmv P g r x n rest M).1 k = M.1 k := fun k hk => qmv_S (by omega) (by omega) (by omega)
      refine ⟨⟨h0, fun h67 t ht hl => ?_⟩, fun k hk => hS k (by omega), fun a b c hcb => ?_⟩
      · rw [hS 67 (by omega)] at h67
        rw [qlr_eq (hS 1 (by omega))] at hl
        obtain ⟨a, b⟩ := hI.2 h67 t ht hl
        rw [qns_eq (hS 1 (by omega)), hS 69 (by omega), hS (144 + t) (by omega)]
        refine ⟨fun u v => ?_, fun u v => b u (fun y hy => ?_)⟩
        · obtain ⟨y, hy, hy2⟩ := a u v
          exact ⟨y, hy, by rw [hS _ (by omega)]; exact hy2⟩
        · have := v y hy
          rw [hS _ (by omega)] at this
          exact this
      · by_cases e : c = 4 * r + x
        · subst e
          rw [qmv_Bc, hcb, if_neg (by omega)]
        · rw [qmv_B e]; exact hcb
theorem qI_handle {P : qP} {M : qM} {r : Nat} (hI : qI P M) (hno : ¬ qhid M) (hr : r < 6) (hl : qlr P M r) (hnb : qNB M r) :
    qI P (qhandle P r M) ∧ (∀ k, (k = 1 ∨ 67 ≤ k ∧ k < 70 ∨ 118 ≤ k ∧ k < 144) → (qhandle P r M).1 k = M.1 k) ∧ (M.1 67 = 1 → M.1 69 = 1 → ∀ c, M.2.2 c = -1 → (qhandle P r M).2.2 c = -1) := by
  unfold qhandle
  cases h : qturn P r M with
  | none => exact ⟨hI, fun _ _ => rfl, fun _ _ _ h => h⟩
  | some x =>
    obtain ⟨h1, h2⟩ := qturn_mem h
    exact qI_take hI hno hr ⟨hl, h1⟩ h2 hnb
theorem qI_E {P : qP} {M : qM} (hI : qI P M) (hno : ¬ qhid M) (hnb : ∀ r, r < 4 → qNB M r) : qI P (qtickE P M) ∧ ¬ qhid (qtickE P M) := by
  unfold qtickE
  have hm4 := qN_many hI.1.2.1
  have key := q_fold (fun M i => qhandle P i M) (fun i N => qI P N ∧ (∀ k, (k = 1 ∨ 67 ≤ k ∧ k < 70 ∨ 118 ≤ k ∧ k < 144) → N.1 k = M.1 k) ∧ (M.1 67 = 1 → M.1 69 = 1 → ∀ c, M.2.2 c = -1 → N.2.2 c = -1)) (qmany M) M ⟨hI, fun _ _ => rfl, fun _ _ _ h => h⟩ (fun i N hi h => by
    obtain ⟨n1, n2, n3⟩ := h
    have hno2 : ¬ qhid N := by unfold qhid; rw [n2 118 (by omega), n2 123 (by omega)]; exact hno
    have hl : qlr P N i := by unfold qlr; rw [if_pos (by omega), qmany_eq (n2 1 (by omega))]; exact hi
    obtain ⟨o1, o2, o3⟩ := qI_handle n1 hno2 (by omega) hl (fun a b x hx => by
      rw [n2 67 (by omega)] at a
      rw [n2 69 (by omega)] at b
      exact n3 a b _ (hnb i (by omega) a b x hx))
    exact ⟨o1, fun k hk => by rw [o2 k hk]; exact n2 k hk, fun a b c hc => o3 (by rw [n2 67 (by omega)]; exact a) (by rw [n2 69 (by omega)]; exact b) c (n3 a b c hc)⟩)
  obtain ⟨k1, k2, k3⟩ := key
  exact ⟨k1, by unfold qhid; rw [k2 118 (by omega), k2 123 (by omega)]; exact hno⟩
theorem qI_G {P : qP} {M : qM} (hI : qI P M) (hno : ¬ qhid M) (hnb : ∀ r, 4 ≤ r → r < 6 → qNB M r) : qI P (qtickG P M) ∧ ¬ qhid (qtickG P M) := by
  unfold qtickG
  have hk2 := hI.1.1.2.2.2.1
  have key := q_fold (fun M k => qhandle P (4 + k) M) (fun i N => qI P N ∧ (∀ k, (k = 1 ∨ 67 ≤ k ∧ k < 70 ∨ 118 ≤ k ∧ k < 144) → N.1 k = M.1 k) ∧ (M.1 67 = 1 → M.1 69 = 1 → ∀ c, M.2.2 c = -1 → N.2.2 c = -1)) P.2.1 M ⟨hI, fun _ _ => rfl, fun _ _ _ h => h⟩ (fun i N hi h => by
    obtain ⟨n1, n2, n3⟩ := h
    have hno2 : ¬ qhid N := by unfold qhid; rw [n2 118 (by omega), n2 123 (by omega)]; exact hno
    have hl : qlr P N (4 + i) := by unfold qlr; rw [if_neg (by omega)]; omega
    obtain ⟨o1, o2, o3⟩ := qI_handle n1 hno2 (by omega) hl (fun a b x hx => by
      rw [n2 67 (by omega)] at a
      rw [n2 69 (by omega)] at b
      exact n3 a b _ (hnb (4 + i) (by omega) (by omega) a b x hx))
    exact ⟨o1, fun k hk => by rw [o2 k hk]; exact n2 k hk, fun a b c hc => o3 (by rw [n2 67 (by omega)]; exact a) (by rw [n2 69 (by omega)]; exact b) c (n3 a b c hc)⟩)
  obtain ⟨k1, k2, k3⟩ := key
  exact ⟨k1, by unfold qhid; rw [k2 118 (by omega), k2 123 (by omega)]; exact hno⟩
theorem qI_H {P : qP} {M : qM} (hI : qI P M) : qI P (qtickH P M) := by
  unfold qtickH
  split
  · rename_i h; exact qI_complete hI h
  · exact hI
theorem qI_A {P : qP} {M : qM} (hI : qI P M) (ht : 0 ≤ M.1 0 ∧ 0 ≤ M.1 5) : qI P (qtickA M) := by
  unfold qtickA
  split
  · rename_i h; exact qI_begin hI h.2.2 hI.1.2.1.2.2.2.1 ht
  · exact hI
theorem qI_tick {P : qP} {M : qM} (hI : qI P M) (ht : 0 ≤ M.1 0 ∧ 0 ≤ M.1 5) : qI P (qtick P M) := by
  obtain ⟨b1, b2⟩ := qI_show0 (qI_A hI ht)
  obtain ⟨c1, c2⟩ := qI_C b1 b2
  obtain ⟨d1, d2, d3⟩ := qI_D c1 c2
  obtain ⟨e1, e2⟩ := qI_E d1 d2 d3
  obtain ⟨f1, f2, f3⟩ := qI_F e1 e2
  obtain ⟨g1, g2⟩ := qI_G f1 f2 f3
  have h1 := qI_H g1
  exact qI_num h1 (Or.inl ⟨rfl, by omega⟩)
